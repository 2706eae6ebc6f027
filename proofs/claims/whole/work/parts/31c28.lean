/-! yX1_two (LTallySlate$Word;JJ)J -/
theorem cb_89_0 {X : Nat → Option zz_C} {h : zz_H} {t : cS} {s : mS} {d : Nat} {Q : zz_O → zz_H → Prop} {x1 : Nat} {x2 : Int64} {x4 : Int64} (hR : kR h t s) (e0 : ¬ x1 < zz_out) (e1 : hcl X [] x1 20 = true) (k : ∀ {h : zz_H}, kR h t s → zz_J zp_P zt_tf zt_fd X d zm_356 0 [(0, .ref x1)] [] h (zz_after 20 Q (fun v h' => zz_J zp_P zt_tf zt_fd X (d + 1) zm_89 7 [(0, .ref 59), (2, .long x2), (4, .long x4)] (v.toList ++ [.ref (zz_out + 43)]) h' Q))) : zz_J zp_P zt_tf zt_fd X (d + 1) zm_89 0 [(0, .ref 59), (1, .ref x1), (2, .long x2), (4, .long x4)] [] h Q := by
  refine zz_J.c 3 (.ref (zz_out + 43)) rfl rfl rfl rfl ?_
  refine zz_J.n 4 rfl rfl rfl ?_
  refine zz_J.cv 7 (as := [.ref (zz_out + 43)]) rfl rfl ((hx_cl e0).trans e1) (by decide) (Nat.le_of_ble_eq_true rfl) (Nat.le_of_ble_eq_true rfl) rfl (Nat.le_of_ble_eq_true rfl) rfl ?_
  refine zz_J.mono (k hR) ?_
  intro o h' hE
  cases o with
  | inl v => exact zz_J.weak hE rfl ⟨rfl, rfl, rfl, trivial⟩
  | inr q => exact hE
theorem cb_89_7 {X : Nat → Option zz_C} {h : zz_H} {t : cS} {s : mS} {d : Nat} {Q : zz_O → zz_H → Prop} {x2 : Int64} {x4 : Int64} {y1 : Int32} (hR : kR h t s) {w0 : Int32} (e0 : hai X [] (zz_out + 43) y1 = some w0) (c25 : w0 = 25 → (∀ {h : zz_H}, kR h t s → zz_J zp_P zt_tf zt_fd X d zm_89 64 [(0, .ref 59), (2, .long x2), (4, .long x4)] [] h Q)) (c26 : w0 = 26 → (∀ {h : zz_H}, kR h t s → zz_J zp_P zt_tf zt_fd X d zm_89 72 [(0, .ref 59), (2, .long x2), (4, .long x4)] [] h Q)) (c27 : w0 = 27 → (∀ {h : zz_H}, kR h t s → zz_J zp_P zt_tf zt_fd X d zm_89 80 [(0, .ref 59), (2, .long x2), (4, .long x4)] [] h Q)) (c28 : w0 = 28 → (∀ {h : zz_H}, kR h t s → zz_J zp_P zt_tf zt_fd X d zm_89 88 [(0, .ref 59), (2, .long x2), (4, .long x4)] [] h Q)) (c29 : w0 = 29 → (∀ {h : zz_H}, kR h t s → zz_J zp_P zt_tf zt_fd X d zm_89 96 [(0, .ref 59), (2, .long x2), (4, .long x4)] [] h Q)) (c30 : w0 = 30 → (∀ {h : zz_H}, kR h t s → zz_J zp_P zt_tf zt_fd X d zm_89 104 [(0, .ref 59), (2, .long x2), (4, .long x4)] [] h Q)) (c31 : w0 = 31 → (∀ {h : zz_H}, kR h t s → zz_J zp_P zt_tf zt_fd X d zm_89 112 [(0, .ref 59), (2, .long x2), (4, .long x4)] [] h Q)) (c32 : w0 = 32 → (∀ {h : zz_H}, kR h t s → zz_J zp_P zt_tf zt_fd X d zm_89 120 [(0, .ref 59), (2, .long x2), (4, .long x4)] [] h Q)) (c33 : w0 = 33 → (∀ {h : zz_H}, kR h t s → zz_J zp_P zt_tf zt_fd X d zm_89 128 [(0, .ref 59), (2, .long x2), (4, .long x4)] [] h Q)) (c34 : w0 = 34 → (∀ {h : zz_H}, kR h t s → zz_J zp_P zt_tf zt_fd X d zm_89 136 [(0, .ref 59), (2, .long x2), (4, .long x4)] [] h Q)) (kd : (Int32.toInt w0 < 25 ∨ 34 < Int32.toInt w0) → (∀ {h : zz_H}, kR h t s → zz_J zp_P zt_tf zt_fd X d zm_89 159 [] [] h Q)) : zz_J zp_P zt_tf zt_fd X d zm_89 7 [(0, .ref 59), (2, .long x2), (4, .long x4)] [.int y1, .ref (zz_out + 43)] h Q := by
  refine zz_J.ai 8 rfl ((hx_ai (Nat.not_lt.mpr (Nat.le_add_right _ _))).trans e0) rfl ?_
  by_cases hx : Int32.toInt w0 < 25 ∨ 34 < Int32.toInt w0
  · exact zz_J.td 159 rfl hx (by decide) rfl (zz_J.weak (kd hx hR) rfl trivial)
  · have hv : Int32.toInt w0 = 25 ∨ Int32.toInt w0 = 26 ∨ Int32.toInt w0 = 27 ∨ Int32.toInt w0 = 28 ∨ Int32.toInt w0 = 29 ∨ Int32.toInt w0 = 30 ∨ Int32.toInt w0 = 31 ∨ Int32.toInt w0 = 32 ∨ Int32.toInt w0 = 33 ∨ Int32.toInt w0 = 34 := by omega
    rcases hv with hv | hv | hv | hv | hv | hv | hv | hv | hv | hv
    · have e : w0 = 25 := Int32.toInt_inj.mp (hv.trans rfl)
      exact zz_J.tv 64 rfl e rfl (zz_J.weak (c25 e hR) rfl ⟨rfl, rfl, rfl, trivial⟩)
    · have e : w0 = 26 := Int32.toInt_inj.mp (hv.trans rfl)
      exact zz_J.tv 72 rfl e rfl (zz_J.weak (c26 e hR) rfl ⟨rfl, rfl, rfl, trivial⟩)
    · have e : w0 = 27 := Int32.toInt_inj.mp (hv.trans rfl)
      exact zz_J.tv 80 rfl e rfl (zz_J.weak (c27 e hR) rfl ⟨rfl, rfl, rfl, trivial⟩)
    · have e : w0 = 28 := Int32.toInt_inj.mp (hv.trans rfl)
      exact zz_J.tv 88 rfl e rfl (zz_J.weak (c28 e hR) rfl ⟨rfl, rfl, rfl, trivial⟩)
    · have e : w0 = 29 := Int32.toInt_inj.mp (hv.trans rfl)
      exact zz_J.tv 96 rfl e rfl (zz_J.weak (c29 e hR) rfl ⟨rfl, rfl, rfl, trivial⟩)
    · have e : w0 = 30 := Int32.toInt_inj.mp (hv.trans rfl)
      exact zz_J.tv 104 rfl e rfl (zz_J.weak (c30 e hR) rfl ⟨rfl, rfl, rfl, trivial⟩)
    · have e : w0 = 31 := Int32.toInt_inj.mp (hv.trans rfl)
      exact zz_J.tv 112 rfl e rfl (zz_J.weak (c31 e hR) rfl ⟨rfl, rfl, rfl, trivial⟩)
    · have e : w0 = 32 := Int32.toInt_inj.mp (hv.trans rfl)
      exact zz_J.tv 120 rfl e rfl (zz_J.weak (c32 e hR) rfl ⟨rfl, rfl, rfl, trivial⟩)
    · have e : w0 = 33 := Int32.toInt_inj.mp (hv.trans rfl)
      exact zz_J.tv 128 rfl e rfl (zz_J.weak (c33 e hR) rfl ⟨rfl, rfl, rfl, trivial⟩)
    · have e : w0 = 34 := Int32.toInt_inj.mp (hv.trans rfl)
      exact zz_J.tv 136 rfl e rfl (zz_J.weak (c34 e hR) rfl ⟨rfl, rfl, rfl, trivial⟩)
theorem cb_89_64 {X : Nat → Option zz_C} {h : zz_H} {t : cS} {s : mS} {d : Nat} {Q : zz_O → zz_H → Prop} {x2 : Int64} {x4 : Int64} (hR : kR h t s) (k : ∀ {h : zz_H}, kR h t s → zz_J zp_P zt_tf zt_fd X d zm_92 0 [(0, .ref 59), (1, .long x2), (3, .long x4)] [] h (zz_after 1 Q (fun v h' => zz_J zp_P zt_tf zt_fd X (d + 1) zm_89 71 [] (v.toList ++ []) h' Q))) : zz_J zp_P zt_tf zt_fd X (d + 1) zm_89 64 [(0, .ref 59), (2, .long x2), (4, .long x4)] [] h Q := by
  refine zz_J.n 65 rfl rfl rfl ?_
  refine zz_J.n 66 rfl rfl rfl ?_
  refine zz_J.n 68 rfl rfl rfl ?_
  refine zz_J.cv 71 (as := []) rfl rfl (hR.clO ko_59 (by decide) (by decide)) (by decide) (Nat.le_of_ble_eq_true rfl) (Nat.le_of_ble_eq_true rfl) rfl (Nat.le_of_ble_eq_true rfl) rfl ?_
  refine zz_J.mono (k hR) ?_
  intro o h' hE
  cases o with
  | inl v => exact zz_J.weak hE rfl trivial
  | inr q => exact hE
theorem cb_89_71 {X : Nat → Option zz_C} {h : zz_H} {t : cS} {s : mS} {d : Nat} {Q : zz_O → zz_H → Prop} {y0 : Int64} (hR : kR h t s) (k : ∀ {h : zz_H}, kR h t s → Q (.inl (some (.long y0))) h) : zz_J zp_P zt_tf zt_fd X d zm_89 71 [] [.long y0] h Q := by
  refine zz_J.ret rfl rfl rfl ?_
  exact k hR
theorem cb_89_72 {X : Nat → Option zz_C} {h : zz_H} {t : cS} {s : mS} {d : Nat} {Q : zz_O → zz_H → Prop} {x2 : Int64} {x4 : Int64} (hR : kR h t s) (k : ∀ {h : zz_H}, kR h t s → zz_J zp_P zt_tf zt_fd X d zm_108 0 [(0, .ref 59), (1, .long x2), (3, .long x4)] [] h (zz_after 1 Q (fun v h' => zz_J zp_P zt_tf zt_fd X (d + 1) zm_89 79 [] (v.toList ++ []) h' Q))) : zz_J zp_P zt_tf zt_fd X (d + 1) zm_89 72 [(0, .ref 59), (2, .long x2), (4, .long x4)] [] h Q := by
  refine zz_J.n 73 rfl rfl rfl ?_
  refine zz_J.n 74 rfl rfl rfl ?_
  refine zz_J.n 76 rfl rfl rfl ?_
  refine zz_J.cv 79 (as := []) rfl rfl (hR.clO ko_59 (by decide) (by decide)) (by decide) (Nat.le_of_ble_eq_true rfl) (Nat.le_of_ble_eq_true rfl) rfl (Nat.le_of_ble_eq_true rfl) rfl ?_
  refine zz_J.mono (k hR) ?_
  intro o h' hE
  cases o with
  | inl v => exact zz_J.weak hE rfl trivial
  | inr q => exact hE
theorem cb_89_79 {X : Nat → Option zz_C} {h : zz_H} {t : cS} {s : mS} {d : Nat} {Q : zz_O → zz_H → Prop} {y0 : Int64} (hR : kR h t s) (k : ∀ {h : zz_H}, kR h t s → Q (.inl (some (.long y0))) h) : zz_J zp_P zt_tf zt_fd X d zm_89 79 [] [.long y0] h Q := by
  refine zz_J.ret rfl rfl rfl ?_
  exact k hR
theorem cb_89_80 {X : Nat → Option zz_C} {h : zz_H} {t : cS} {s : mS} {d : Nat} {Q : zz_O → zz_H → Prop} {x2 : Int64} {x4 : Int64} (hR : kR h t s) (k : ∀ {h : zz_H}, kR h t s → zz_J zp_P zt_tf zt_fd X d zm_109 0 [(0, .ref 59), (1, .long x2), (3, .long x4)] [] h (zz_after 1 Q (fun v h' => zz_J zp_P zt_tf zt_fd X (d + 1) zm_89 87 [] (v.toList ++ []) h' Q))) : zz_J zp_P zt_tf zt_fd X (d + 1) zm_89 80 [(0, .ref 59), (2, .long x2), (4, .long x4)] [] h Q := by
  refine zz_J.n 81 rfl rfl rfl ?_
  refine zz_J.n 82 rfl rfl rfl ?_
  refine zz_J.n 84 rfl rfl rfl ?_
  refine zz_J.cv 87 (as := []) rfl rfl (hR.clO ko_59 (by decide) (by decide)) (by decide) (Nat.le_of_ble_eq_true rfl) (Nat.le_of_ble_eq_true rfl) rfl (Nat.le_of_ble_eq_true rfl) rfl ?_
  refine zz_J.mono (k hR) ?_
  intro o h' hE
  cases o with
  | inl v => exact zz_J.weak hE rfl trivial
  | inr q => exact hE
theorem cb_89_87 {X : Nat → Option zz_C} {h : zz_H} {t : cS} {s : mS} {d : Nat} {Q : zz_O → zz_H → Prop} {y0 : Int64} (hR : kR h t s) (k : ∀ {h : zz_H}, kR h t s → Q (.inl (some (.long y0))) h) : zz_J zp_P zt_tf zt_fd X d zm_89 87 [] [.long y0] h Q := by
  refine zz_J.ret rfl rfl rfl ?_
  exact k hR
theorem cb_89_88 {X : Nat → Option zz_C} {h : zz_H} {t : cS} {s : mS} {d : Nat} {Q : zz_O → zz_H → Prop} {x2 : Int64} {x4 : Int64} (hR : kR h t s) (k : ∀ {h : zz_H}, kR h t s → zz_J zp_P zt_tf zt_fd X d zm_110 0 [(0, .ref 59), (1, .long x2), (3, .long x4)] [] h (zz_after 1 Q (fun v h' => zz_J zp_P zt_tf zt_fd X (d + 1) zm_89 95 [] (v.toList ++ []) h' Q))) : zz_J zp_P zt_tf zt_fd X (d + 1) zm_89 88 [(0, .ref 59), (2, .long x2), (4, .long x4)] [] h Q := by
  refine zz_J.n 89 rfl rfl rfl ?_
  refine zz_J.n 90 rfl rfl rfl ?_
  refine zz_J.n 92 rfl rfl rfl ?_
  refine zz_J.cv 95 (as := []) rfl rfl (hR.clO ko_59 (by decide) (by decide)) (by decide) (Nat.le_of_ble_eq_true rfl) (Nat.le_of_ble_eq_true rfl) rfl (Nat.le_of_ble_eq_true rfl) rfl ?_
  refine zz_J.mono (k hR) ?_
  intro o h' hE
  cases o with
  | inl v => exact zz_J.weak hE rfl trivial
  | inr q => exact hE
theorem cb_89_95 {X : Nat → Option zz_C} {h : zz_H} {t : cS} {s : mS} {d : Nat} {Q : zz_O → zz_H → Prop} {y0 : Int64} (hR : kR h t s) (k : ∀ {h : zz_H}, kR h t s → Q (.inl (some (.long y0))) h) : zz_J zp_P zt_tf zt_fd X d zm_89 95 [] [.long y0] h Q := by
  refine zz_J.ret rfl rfl rfl ?_
  exact k hR
theorem cb_89_96 {X : Nat → Option zz_C} {h : zz_H} {t : cS} {s : mS} {d : Nat} {Q : zz_O → zz_H → Prop} {x2 : Int64} {x4 : Int64} (hR : kR h t s) (k : ∀ {h : zz_H}, kR h t s → zz_J zp_P zt_tf zt_fd X d zm_111 0 [(0, .ref 59), (1, .long x2), (3, .long x4)] [] h (zz_after 1 Q (fun v h' => zz_J zp_P zt_tf zt_fd X (d + 1) zm_89 103 [] (v.toList ++ []) h' Q))) : zz_J zp_P zt_tf zt_fd X (d + 1) zm_89 96 [(0, .ref 59), (2, .long x2), (4, .long x4)] [] h Q := by
  refine zz_J.n 97 rfl rfl rfl ?_
  refine zz_J.n 98 rfl rfl rfl ?_
  refine zz_J.n 100 rfl rfl rfl ?_
  refine zz_J.cv 103 (as := []) rfl rfl (hR.clO ko_59 (by decide) (by decide)) (by decide) (Nat.le_of_ble_eq_true rfl) (Nat.le_of_ble_eq_true rfl) rfl (Nat.le_of_ble_eq_true rfl) rfl ?_
  refine zz_J.mono (k hR) ?_
  intro o h' hE
  cases o with
  | inl v => exact zz_J.weak hE rfl trivial
  | inr q => exact hE
theorem cb_89_103 {X : Nat → Option zz_C} {h : zz_H} {t : cS} {s : mS} {d : Nat} {Q : zz_O → zz_H → Prop} {y0 : Int64} (hR : kR h t s) (k : ∀ {h : zz_H}, kR h t s → Q (.inl (some (.long y0))) h) : zz_J zp_P zt_tf zt_fd X d zm_89 103 [] [.long y0] h Q := by
  refine zz_J.ret rfl rfl rfl ?_
  exact k hR
theorem cb_89_104 {X : Nat → Option zz_C} {h : zz_H} {t : cS} {s : mS} {d : Nat} {Q : zz_O → zz_H → Prop} {x2 : Int64} {x4 : Int64} (hR : kR h t s) (k : ∀ {h : zz_H}, kR h t s → zz_J zp_P zt_tf zt_fd X d zm_113 0 [(0, .ref 59), (1, .long x2), (3, .long x4)] [] h (zz_after 1 Q (fun v h' => zz_J zp_P zt_tf zt_fd X (d + 1) zm_89 111 [] (v.toList ++ []) h' Q))) : zz_J zp_P zt_tf zt_fd X (d + 1) zm_89 104 [(0, .ref 59), (2, .long x2), (4, .long x4)] [] h Q := by
  refine zz_J.n 105 rfl rfl rfl ?_
  refine zz_J.n 106 rfl rfl rfl ?_
  refine zz_J.n 108 rfl rfl rfl ?_
  refine zz_J.cv 111 (as := []) rfl rfl (hR.clO ko_59 (by decide) (by decide)) (by decide) (Nat.le_of_ble_eq_true rfl) (Nat.le_of_ble_eq_true rfl) rfl (Nat.le_of_ble_eq_true rfl) rfl ?_
  refine zz_J.mono (k hR) ?_
  intro o h' hE
  cases o with
  | inl v => exact zz_J.weak hE rfl trivial
  | inr q => exact hE
theorem cb_89_111 {X : Nat → Option zz_C} {h : zz_H} {t : cS} {s : mS} {d : Nat} {Q : zz_O → zz_H → Prop} {y0 : Int64} (hR : kR h t s) (k : ∀ {h : zz_H}, kR h t s → Q (.inl (some (.long y0))) h) : zz_J zp_P zt_tf zt_fd X d zm_89 111 [] [.long y0] h Q := by
  refine zz_J.ret rfl rfl rfl ?_
  exact k hR
theorem cb_89_112 {X : Nat → Option zz_C} {h : zz_H} {t : cS} {s : mS} {d : Nat} {Q : zz_O → zz_H → Prop} {x2 : Int64} {x4 : Int64} (hR : kR h t s) (k : ∀ {h : zz_H}, kR h t s → zz_J zp_P zt_tf zt_fd X d zm_114 0 [(0, .ref 59), (1, .long x2), (3, .long x4)] [] h (zz_after 1 Q (fun v h' => zz_J zp_P zt_tf zt_fd X (d + 1) zm_89 119 [] (v.toList ++ []) h' Q))) : zz_J zp_P zt_tf zt_fd X (d + 1) zm_89 112 [(0, .ref 59), (2, .long x2), (4, .long x4)] [] h Q := by
  refine zz_J.n 113 rfl rfl rfl ?_
  refine zz_J.n 114 rfl rfl rfl ?_
  refine zz_J.n 116 rfl rfl rfl ?_
  refine zz_J.cv 119 (as := []) rfl rfl (hR.clO ko_59 (by decide) (by decide)) (by decide) (Nat.le_of_ble_eq_true rfl) (Nat.le_of_ble_eq_true rfl) rfl (Nat.le_of_ble_eq_true rfl) rfl ?_
  refine zz_J.mono (k hR) ?_
  intro o h' hE
  cases o with
  | inl v => exact zz_J.weak hE rfl trivial
  | inr q => exact hE
theorem cb_89_119 {X : Nat → Option zz_C} {h : zz_H} {t : cS} {s : mS} {d : Nat} {Q : zz_O → zz_H → Prop} {y0 : Int64} (hR : kR h t s) (k : ∀ {h : zz_H}, kR h t s → Q (.inl (some (.long y0))) h) : zz_J zp_P zt_tf zt_fd X d zm_89 119 [] [.long y0] h Q := by
  refine zz_J.ret rfl rfl rfl ?_
  exact k hR
theorem cb_89_120 {X : Nat → Option zz_C} {h : zz_H} {t : cS} {s : mS} {d : Nat} {Q : zz_O → zz_H → Prop} {x2 : Int64} {x4 : Int64} (hR : kR h t s) (k : ∀ {h : zz_H}, kR h t s → zz_J zp_P zt_tf zt_fd X d zm_116 0 [(0, .ref 59), (1, .long x2), (3, .long x4)] [] h (zz_after 1 Q (fun v h' => zz_J zp_P zt_tf zt_fd X (d + 1) zm_89 127 [] (v.toList ++ []) h' Q))) : zz_J zp_P zt_tf zt_fd X (d + 1) zm_89 120 [(0, .ref 59), (2, .long x2), (4, .long x4)] [] h Q := by
  refine zz_J.n 121 rfl rfl rfl ?_
  refine zz_J.n 122 rfl rfl rfl ?_
  refine zz_J.n 124 rfl rfl rfl ?_
  refine zz_J.cv 127 (as := []) rfl rfl (hR.clO ko_59 (by decide) (by decide)) (by decide) (Nat.le_of_ble_eq_true rfl) (Nat.le_of_ble_eq_true rfl) rfl (Nat.le_of_ble_eq_true rfl) rfl ?_
  refine zz_J.mono (k hR) ?_
  intro o h' hE
  cases o with
  | inl v => exact zz_J.weak hE rfl trivial
  | inr q => exact hE
theorem cb_89_127 {X : Nat → Option zz_C} {h : zz_H} {t : cS} {s : mS} {d : Nat} {Q : zz_O → zz_H → Prop} {y0 : Int64} (hR : kR h t s) (k : ∀ {h : zz_H}, kR h t s → Q (.inl (some (.long y0))) h) : zz_J zp_P zt_tf zt_fd X d zm_89 127 [] [.long y0] h Q := by
  refine zz_J.ret rfl rfl rfl ?_
  exact k hR
theorem cb_89_128 {X : Nat → Option zz_C} {h : zz_H} {t : cS} {s : mS} {d : Nat} {Q : zz_O → zz_H → Prop} {x2 : Int64} {x4 : Int64} (hR : kR h t s) (k : ∀ {h : zz_H}, kR h t s → zz_J zp_P zt_tf zt_fd X d zm_118 0 [(0, .ref 59), (1, .long x2), (3, .long x4)] [] h (zz_after 1 Q (fun v h' => zz_J zp_P zt_tf zt_fd X (d + 1) zm_89 135 [] (v.toList ++ []) h' Q))) : zz_J zp_P zt_tf zt_fd X (d + 1) zm_89 128 [(0, .ref 59), (2, .long x2), (4, .long x4)] [] h Q := by
  refine zz_J.n 129 rfl rfl rfl ?_
  refine zz_J.n 130 rfl rfl rfl ?_
  refine zz_J.n 132 rfl rfl rfl ?_
  refine zz_J.cv 135 (as := []) rfl rfl (hR.clO ko_59 (by decide) (by decide)) (by decide) (Nat.le_of_ble_eq_true rfl) (Nat.le_of_ble_eq_true rfl) rfl (Nat.le_of_ble_eq_true rfl) rfl ?_
  refine zz_J.mono (k hR) ?_
  intro o h' hE
  cases o with
  | inl v => exact zz_J.weak hE rfl trivial
  | inr q => exact hE
theorem cb_89_135 {X : Nat → Option zz_C} {h : zz_H} {t : cS} {s : mS} {d : Nat} {Q : zz_O → zz_H → Prop} {y0 : Int64} (hR : kR h t s) (k : ∀ {h : zz_H}, kR h t s → Q (.inl (some (.long y0))) h) : zz_J zp_P zt_tf zt_fd X d zm_89 135 [] [.long y0] h Q := by
  refine zz_J.ret rfl rfl rfl ?_
  exact k hR
theorem cb_89_136 {X : Nat → Option zz_C} {h : zz_H} {t : cS} {s : mS} {d : Nat} {Q : zz_O → zz_H → Prop} {x2 : Int64} {x4 : Int64} (hR : kR h t s) (k : ∀ {h : zz_H}, kR h t s → zz_J zp_P zt_tf zt_fd X d zm_132 0 [(0, .ref 42), (1, .long x2), (3, .long x4)] [] h (zz_after 2 Q (fun v h' => zz_J zp_P zt_tf zt_fd X (d + 1) zm_89 147 [] (v.toList ++ [.int 0]) h' Q))) : zz_J zp_P zt_tf zt_fd X (d + 1) zm_89 136 [(0, .ref 59), (2, .long x2), (4, .long x4)] [] h Q := by
  refine zz_J.c 137 (.int 0) rfl rfl rfl rfl ?_
  refine zz_J.n 138 rfl rfl rfl ?_
  refine zz_J.g 141 rfl (hR.gv (v := .ref 42) ko_59 (by decide) rfl) rfl ?_
  refine zz_J.n 142 rfl rfl rfl ?_
  refine zz_J.n 144 rfl rfl rfl ?_
  refine zz_J.cv 147 (as := [.int 0]) rfl rfl (hR.clO ko_42 (by decide) (by decide)) (by decide) (Nat.le_of_ble_eq_true rfl) (Nat.le_of_ble_eq_true rfl) rfl (Nat.le_of_ble_eq_true rfl) rfl ?_
  refine zz_J.mono (k hR) ?_
  intro o h' hE
  cases o with
  | inl v => exact zz_J.weak hE rfl trivial
  | inr q => exact hE
theorem cb_89_147 {X : Nat → Option zz_C} {h : zz_H} {t : cS} {s : mS} {d : Nat} {Q : zz_O → zz_H → Prop} {y0 : Int32} {y1 : Int32} (hR : kR h t s) (k1 : y1 = 0 → (∀ {h : zz_H}, kR h t s → zz_J zp_P zt_tf zt_fd X d zm_89 154 [] [.int y0] h Q)) (k2 : ¬ y1 = 0 → (∀ {h : zz_H}, kR h t s → zz_J zp_P zt_tf zt_fd X d zm_89 150 [] [.int y0] h Q)) : zz_J zp_P zt_tf zt_fd X d zm_89 147 [] [.int y1, .int y0] h Q := by
  refine zz_J.b1 154 150 (A := y1 = 0) rfl rfl (by decide) rfl rfl (fun c => ?_) (fun c => ?_)
  · exact zz_J.weak (k1 c hR) rfl trivial
  · exact zz_J.weak (k2 c hR) rfl trivial
theorem cb_89_150 {X : Nat → Option zz_C} {h : zz_H} {t : cS} {s : mS} {d : Nat} {Q : zz_O → zz_H → Prop} {y0 : Int32} (hR : kR h t s) (k : ∀ {h : zz_H}, kR h t s → zz_J zp_P zt_tf zt_fd X d zm_89 155 [] [.int 1, .int y0] h Q) : zz_J zp_P zt_tf zt_fd X d zm_89 150 [] [.int y0] h Q := by
  refine zz_J.c 151 (.int 1) rfl rfl rfl rfl ?_
  refine zz_J.n 155 rfl rfl rfl ?_
  exact zz_J.weak (k hR) rfl trivial
theorem cb_89_154 {X : Nat → Option zz_C} {h : zz_H} {t : cS} {s : mS} {d : Nat} {Q : zz_O → zz_H → Prop} {y0 : Int32} (hR : kR h t s) (k : ∀ {h : zz_H}, kR h t s → zz_J zp_P zt_tf zt_fd X d zm_89 155 [] [.int 0, .int y0] h Q) : zz_J zp_P zt_tf zt_fd X d zm_89 154 [] [.int y0] h Q := by
  refine zz_J.c 155 (.int 0) rfl rfl rfl rfl ?_
  exact zz_J.weak (k hR) rfl trivial
theorem cb_89_155 {X : Nat → Option zz_C} {h : zz_H} {t : cS} {s : mS} {d : Nat} {Q : zz_O → zz_H → Prop} {y0 : Int32} {y1 : Int32} (hR : kR h t s) (k : ∀ {h : zz_H}, kR h t s → zz_J zp_P zt_tf zt_fd X d zm_253 0 [(0, .int y0), (1, .int y1)] [] h (zz_after 1000 Q (fun v h' => zz_J zp_P zt_tf zt_fd X (d + 1) zm_89 158 [] (v.toList ++ []) h' Q))) : zz_J zp_P zt_tf zt_fd X (d + 1) zm_89 155 [] [.int y1, .int y0] h Q := by
  refine zz_J.cl (M' := zm_253) 158 rfl rfl (by decide) rfl rfl ⟨rfl, Nat.le_of_ble_eq_true rfl⟩ rfl ?_
  refine zz_J.mono (k hR) ?_
  intro o h' hE
  cases o with
  | inl v => exact zz_J.weak hE rfl trivial
  | inr q => exact hE
theorem cb_89_158 {X : Nat → Option zz_C} {h : zz_H} {t : cS} {s : mS} {d : Nat} {Q : zz_O → zz_H → Prop} {y0 : Int64} (hR : kR h t s) (k : ∀ {h : zz_H}, kR h t s → Q (.inl (some (.long y0))) h) : zz_J zp_P zt_tf zt_fd X d zm_89 158 [] [.long y0] h Q := by
  refine zz_J.ret rfl rfl rfl ?_
  exact k hR
theorem cb_89_159 {X : Nat → Option zz_C} {h : zz_H} {t : cS} {s : mS} {d : Nat} {Q : zz_O → zz_H → Prop}  (hR : kR h t s) (k : ∀ {h : zz_H}, kR h t s → zz_J zp_P zt_tf zt_fd X d zm_254 0 [(0, .int 3)] [] h (zz_after 1000 Q (fun v h' => zz_J zp_P zt_tf zt_fd X (d + 1) zm_89 163 [] (v.toList ++ []) h' Q))) : zz_J zp_P zt_tf zt_fd X (d + 1) zm_89 159 [] [] h Q := by
  refine zz_J.c 160 (.int 3) rfl rfl rfl rfl ?_
  refine zz_J.cl (M' := zm_254) 163 rfl rfl (by decide) rfl rfl ⟨rfl, Nat.le_of_ble_eq_true rfl⟩ rfl ?_
  refine zz_J.mono (k hR) ?_
  intro o h' hE
  cases o with
  | inl v => exact zz_J.weak hE rfl trivial
  | inr q => exact hE
theorem cb_89_163 {X : Nat → Option zz_C} {h : zz_H} {t : cS} {s : mS} {d : Nat} {Q : zz_O → zz_H → Prop} {y0 : Int64} (hR : kR h t s) (k : ∀ {h : zz_H}, kR h t s → Q (.inl (some (.long y0))) h) : zz_J zp_P zt_tf zt_fd X d zm_89 163 [] [.long y0] h Q := by
  refine zz_J.ret rfl rfl rfl ?_
  exact k hR
def cf_89_71 (N : Nat) (X : Nat → Option zz_C) (y0 : Int64) (t : cS) : kO := some (t, .inl (some (.long y0)))
theorem cr_89_71 {X : Nat → Option zz_C} {s : mS} {N : Nat} {d : Nat} (hd : 24 ≤ d) {Q : zz_O → zz_H → Prop} {y0 : Int64} {h : zz_H} {t t' : cS} {o : kY} (hR : kR h t s) (hf : cf_89_71 N X y0 t = some (t', o)) (k : (∀ h', kR h' t' s → kE o Q h')) : zz_J zp_P zt_tf zt_fd X d zm_89 71 [] [.long y0] h Q := by
  unfold cf_89_71 at hf
  cases hf
  exact cb_89_71 hR  (fun {h} hR => k h hR)
def cf_89_64 (N : Nat) (X : Nat → Option zz_C) (x2 : Int64) (x4 : Int64) (t : cS) : kO := ko_call 1 (cf_92 N X x2 x4 t) (fun g1 v1 => co_l v1 (fun y => cf_89_71 N X y g1))
theorem cr_89_64 {X : Nat → Option zz_C} {s : mS} {N : Nat} {d : Nat} (hd : 24 ≤ d) {Q : zz_O → zz_H → Prop} {x2 : Int64} {x4 : Int64} {h : zz_H} {t t' : cS} {o : kY} (hR : kR h t s) (hf : cf_89_64 N X x2 x4 t = some (t', o)) (k : (∀ h', kR h' t' s → kE o Q h')) : zz_J zp_P zt_tf zt_fd X d zm_89 64 [(0, .ref 59), (2, .long x2), (4, .long x4)] [] h Q := by
  unfold cf_89_64 at hf
  obtain ⟨d', rfl⟩ : ∃ d', d = d' + 1 := ⟨d - 1, by omega⟩
  refine cb_89_64 hR  (fun {h} hR => ?_)
  rcases ko_call_ok hf with ⟨g1, v1, er, hf⟩ | ⟨g1, er, hq⟩
  · obtain ⟨y, hv, hf2⟩ := co_l_ok hf
    clear hf
    have hf := hf2
    clear hf2
    subst hv
    refine cr_92 (by omega) hR er (fun h hR => ?_)
    exact cr_89_71 hd hR hf k
  · refine cr_92 (by omega) hR er (fun h hR => ?_)
    exact ko_thrown hq hR k
def cf_89_79 (N : Nat) (X : Nat → Option zz_C) (y0 : Int64) (t : cS) : kO := some (t, .inl (some (.long y0)))
theorem cr_89_79 {X : Nat → Option zz_C} {s : mS} {N : Nat} {d : Nat} (hd : 24 ≤ d) {Q : zz_O → zz_H → Prop} {y0 : Int64} {h : zz_H} {t t' : cS} {o : kY} (hR : kR h t s) (hf : cf_89_79 N X y0 t = some (t', o)) (k : (∀ h', kR h' t' s → kE o Q h')) : zz_J zp_P zt_tf zt_fd X d zm_89 79 [] [.long y0] h Q := by
  unfold cf_89_79 at hf
  cases hf
  exact cb_89_79 hR  (fun {h} hR => k h hR)
def cf_89_72 (N : Nat) (X : Nat → Option zz_C) (x2 : Int64) (x4 : Int64) (t : cS) : kO := ko_call 1 (cf_108 N X x2 x4 t) (fun g1 v1 => co_l v1 (fun y => cf_89_79 N X y g1))
theorem cr_89_72 {X : Nat → Option zz_C} {s : mS} {N : Nat} {d : Nat} (hd : 24 ≤ d) {Q : zz_O → zz_H → Prop} {x2 : Int64} {x4 : Int64} {h : zz_H} {t t' : cS} {o : kY} (hR : kR h t s) (hf : cf_89_72 N X x2 x4 t = some (t', o)) (k : (∀ h', kR h' t' s → kE o Q h')) : zz_J zp_P zt_tf zt_fd X d zm_89 72 [(0, .ref 59), (2, .long x2), (4, .long x4)] [] h Q := by
  unfold cf_89_72 at hf
  obtain ⟨d', rfl⟩ : ∃ d', d = d' + 1 := ⟨d - 1, by omega⟩
  refine cb_89_72 hR  (fun {h} hR => ?_)
  rcases ko_call_ok hf with ⟨g1, v1, er, hf⟩ | ⟨g1, er, hq⟩
  · obtain ⟨y, hv, hf2⟩ := co_l_ok hf
    clear hf
    have hf := hf2
    clear hf2
    subst hv
    refine cr_108 (by omega) hR er (fun h hR => ?_)
    exact cr_89_79 hd hR hf k
  · refine cr_108 (by omega) hR er (fun h hR => ?_)
    exact ko_thrown hq hR k
def cf_89_87 (N : Nat) (X : Nat → Option zz_C) (y0 : Int64) (t : cS) : kO := some (t, .inl (some (.long y0)))
theorem cr_89_87 {X : Nat → Option zz_C} {s : mS} {N : Nat} {d : Nat} (hd : 24 ≤ d) {Q : zz_O → zz_H → Prop} {y0 : Int64} {h : zz_H} {t t' : cS} {o : kY} (hR : kR h t s) (hf : cf_89_87 N X y0 t = some (t', o)) (k : (∀ h', kR h' t' s → kE o Q h')) : zz_J zp_P zt_tf zt_fd X d zm_89 87 [] [.long y0] h Q := by
  unfold cf_89_87 at hf
  cases hf
  exact cb_89_87 hR  (fun {h} hR => k h hR)
def cf_89_80 (N : Nat) (X : Nat → Option zz_C) (x2 : Int64) (x4 : Int64) (t : cS) : kO := ko_call 1 (cf_109 N X x2 x4 t) (fun g1 v1 => co_l v1 (fun y => cf_89_87 N X y g1))
theorem cr_89_80 {X : Nat → Option zz_C} {s : mS} {N : Nat} {d : Nat} (hd : 24 ≤ d) {Q : zz_O → zz_H → Prop} {x2 : Int64} {x4 : Int64} {h : zz_H} {t t' : cS} {o : kY} (hR : kR h t s) (hf : cf_89_80 N X x2 x4 t = some (t', o)) (k : (∀ h', kR h' t' s → kE o Q h')) : zz_J zp_P zt_tf zt_fd X d zm_89 80 [(0, .ref 59), (2, .long x2), (4, .long x4)] [] h Q := by
  unfold cf_89_80 at hf
  obtain ⟨d', rfl⟩ : ∃ d', d = d' + 1 := ⟨d - 1, by omega⟩
  refine cb_89_80 hR  (fun {h} hR => ?_)
  rcases ko_call_ok hf with ⟨g1, v1, er, hf⟩ | ⟨g1, er, hq⟩
  · obtain ⟨y, hv, hf2⟩ := co_l_ok hf
    clear hf
    have hf := hf2
    clear hf2
    subst hv
    refine cr_109 (by omega) hR er (fun h hR => ?_)
    exact cr_89_87 hd hR hf k
  · refine cr_109 (by omega) hR er (fun h hR => ?_)
    exact ko_thrown hq hR k
def cf_89_95 (N : Nat) (X : Nat → Option zz_C) (y0 : Int64) (t : cS) : kO := some (t, .inl (some (.long y0)))
theorem cr_89_95 {X : Nat → Option zz_C} {s : mS} {N : Nat} {d : Nat} (hd : 24 ≤ d) {Q : zz_O → zz_H → Prop} {y0 : Int64} {h : zz_H} {t t' : cS} {o : kY} (hR : kR h t s) (hf : cf_89_95 N X y0 t = some (t', o)) (k : (∀ h', kR h' t' s → kE o Q h')) : zz_J zp_P zt_tf zt_fd X d zm_89 95 [] [.long y0] h Q := by
  unfold cf_89_95 at hf
  cases hf
  exact cb_89_95 hR  (fun {h} hR => k h hR)
def cf_89_88 (N : Nat) (X : Nat → Option zz_C) (x2 : Int64) (x4 : Int64) (t : cS) : kO := ko_call 1 (cf_110 N X x2 x4 t) (fun g1 v1 => co_l v1 (fun y => cf_89_95 N X y g1))
theorem cr_89_88 {X : Nat → Option zz_C} {s : mS} {N : Nat} {d : Nat} (hd : 24 ≤ d) {Q : zz_O → zz_H → Prop} {x2 : Int64} {x4 : Int64} {h : zz_H} {t t' : cS} {o : kY} (hR : kR h t s) (hf : cf_89_88 N X x2 x4 t = some (t', o)) (k : (∀ h', kR h' t' s → kE o Q h')) : zz_J zp_P zt_tf zt_fd X d zm_89 88 [(0, .ref 59), (2, .long x2), (4, .long x4)] [] h Q := by
  unfold cf_89_88 at hf
  obtain ⟨d', rfl⟩ : ∃ d', d = d' + 1 := ⟨d - 1, by omega⟩
  refine cb_89_88 hR  (fun {h} hR => ?_)
  rcases ko_call_ok hf with ⟨g1, v1, er, hf⟩ | ⟨g1, er, hq⟩
  · obtain ⟨y, hv, hf2⟩ := co_l_ok hf
    clear hf
    have hf := hf2
    clear hf2
    subst hv
    refine cr_110 (by omega) hR er (fun h hR => ?_)
    exact cr_89_95 hd hR hf k
  · refine cr_110 (by omega) hR er (fun h hR => ?_)
    exact ko_thrown hq hR k
def cf_89_103 (N : Nat) (X : Nat → Option zz_C) (y0 : Int64) (t : cS) : kO := some (t, .inl (some (.long y0)))
theorem cr_89_103 {X : Nat → Option zz_C} {s : mS} {N : Nat} {d : Nat} (hd : 24 ≤ d) {Q : zz_O → zz_H → Prop} {y0 : Int64} {h : zz_H} {t t' : cS} {o : kY} (hR : kR h t s) (hf : cf_89_103 N X y0 t = some (t', o)) (k : (∀ h', kR h' t' s → kE o Q h')) : zz_J zp_P zt_tf zt_fd X d zm_89 103 [] [.long y0] h Q := by
  unfold cf_89_103 at hf
  cases hf
  exact cb_89_103 hR  (fun {h} hR => k h hR)
def cf_89_96 (N : Nat) (X : Nat → Option zz_C) (x2 : Int64) (x4 : Int64) (t : cS) : kO := ko_call 1 (cf_111 N X x2 x4 t) (fun g1 v1 => co_l v1 (fun y => cf_89_103 N X y g1))
theorem cr_89_96 {X : Nat → Option zz_C} {s : mS} {N : Nat} {d : Nat} (hd : 24 ≤ d) {Q : zz_O → zz_H → Prop} {x2 : Int64} {x4 : Int64} {h : zz_H} {t t' : cS} {o : kY} (hR : kR h t s) (hf : cf_89_96 N X x2 x4 t = some (t', o)) (k : (∀ h', kR h' t' s → kE o Q h')) : zz_J zp_P zt_tf zt_fd X d zm_89 96 [(0, .ref 59), (2, .long x2), (4, .long x4)] [] h Q := by
  unfold cf_89_96 at hf
  obtain ⟨d', rfl⟩ : ∃ d', d = d' + 1 := ⟨d - 1, by omega⟩
  refine cb_89_96 hR  (fun {h} hR => ?_)
  rcases ko_call_ok hf with ⟨g1, v1, er, hf⟩ | ⟨g1, er, hq⟩
  · obtain ⟨y, hv, hf2⟩ := co_l_ok hf
    clear hf
    have hf := hf2
    clear hf2
    subst hv
    refine cr_111 (by omega) hR er (fun h hR => ?_)
    exact cr_89_103 hd hR hf k
  · refine cr_111 (by omega) hR er (fun h hR => ?_)
    exact ko_thrown hq hR k
def cf_89_111 (N : Nat) (X : Nat → Option zz_C) (y0 : Int64) (t : cS) : kO := some (t, .inl (some (.long y0)))
theorem cr_89_111 {X : Nat → Option zz_C} {s : mS} {N : Nat} {d : Nat} (hd : 24 ≤ d) {Q : zz_O → zz_H → Prop} {y0 : Int64} {h : zz_H} {t t' : cS} {o : kY} (hR : kR h t s) (hf : cf_89_111 N X y0 t = some (t', o)) (k : (∀ h', kR h' t' s → kE o Q h')) : zz_J zp_P zt_tf zt_fd X d zm_89 111 [] [.long y0] h Q := by
  unfold cf_89_111 at hf
  cases hf
  exact cb_89_111 hR  (fun {h} hR => k h hR)
def cf_89_104 (N : Nat) (X : Nat → Option zz_C) (x2 : Int64) (x4 : Int64) (t : cS) : kO := ko_call 1 (cf_113 N X x2 x4 t) (fun g1 v1 => co_l v1 (fun y => cf_89_111 N X y g1))
theorem cr_89_104 {X : Nat → Option zz_C} {s : mS} {N : Nat} {d : Nat} (hd : 24 ≤ d) {Q : zz_O → zz_H → Prop} {x2 : Int64} {x4 : Int64} {h : zz_H} {t t' : cS} {o : kY} (hR : kR h t s) (hf : cf_89_104 N X x2 x4 t = some (t', o)) (k : (∀ h', kR h' t' s → kE o Q h')) : zz_J zp_P zt_tf zt_fd X d zm_89 104 [(0, .ref 59), (2, .long x2), (4, .long x4)] [] h Q := by
  unfold cf_89_104 at hf
  obtain ⟨d', rfl⟩ : ∃ d', d = d' + 1 := ⟨d - 1, by omega⟩
  refine cb_89_104 hR  (fun {h} hR => ?_)
  rcases ko_call_ok hf with ⟨g1, v1, er, hf⟩ | ⟨g1, er, hq⟩
  · obtain ⟨y, hv, hf2⟩ := co_l_ok hf
    clear hf
    have hf := hf2
    clear hf2
    subst hv
    refine cr_113 (by omega) hR er (fun h hR => ?_)
    exact cr_89_111 hd hR hf k
  · refine cr_113 (by omega) hR er (fun h hR => ?_)
    exact ko_thrown hq hR k
def cf_89_119 (N : Nat) (X : Nat → Option zz_C) (y0 : Int64) (t : cS) : kO := some (t, .inl (some (.long y0)))
theorem cr_89_119 {X : Nat → Option zz_C} {s : mS} {N : Nat} {d : Nat} (hd : 24 ≤ d) {Q : zz_O → zz_H → Prop} {y0 : Int64} {h : zz_H} {t t' : cS} {o : kY} (hR : kR h t s) (hf : cf_89_119 N X y0 t = some (t', o)) (k : (∀ h', kR h' t' s → kE o Q h')) : zz_J zp_P zt_tf zt_fd X d zm_89 119 [] [.long y0] h Q := by
  unfold cf_89_119 at hf
  cases hf
  exact cb_89_119 hR  (fun {h} hR => k h hR)
def cf_89_112 (N : Nat) (X : Nat → Option zz_C) (x2 : Int64) (x4 : Int64) (t : cS) : kO := ko_call 1 (cf_114 N X x2 x4 t) (fun g1 v1 => co_l v1 (fun y => cf_89_119 N X y g1))
theorem cr_89_112 {X : Nat → Option zz_C} {s : mS} {N : Nat} {d : Nat} (hd : 24 ≤ d) {Q : zz_O → zz_H → Prop} {x2 : Int64} {x4 : Int64} {h : zz_H} {t t' : cS} {o : kY} (hR : kR h t s) (hf : cf_89_112 N X x2 x4 t = some (t', o)) (k : (∀ h', kR h' t' s → kE o Q h')) : zz_J zp_P zt_tf zt_fd X d zm_89 112 [(0, .ref 59), (2, .long x2), (4, .long x4)] [] h Q := by
  unfold cf_89_112 at hf
  obtain ⟨d', rfl⟩ : ∃ d', d = d' + 1 := ⟨d - 1, by omega⟩
  refine cb_89_112 hR  (fun {h} hR => ?_)
  rcases ko_call_ok hf with ⟨g1, v1, er, hf⟩ | ⟨g1, er, hq⟩
  · obtain ⟨y, hv, hf2⟩ := co_l_ok hf
    clear hf
    have hf := hf2
    clear hf2
    subst hv
    refine cr_114 (by omega) hR er (fun h hR => ?_)
    exact cr_89_119 hd hR hf k
  · refine cr_114 (by omega) hR er (fun h hR => ?_)
    exact ko_thrown hq hR k
def cf_89_127 (N : Nat) (X : Nat → Option zz_C) (y0 : Int64) (t : cS) : kO := some (t, .inl (some (.long y0)))
theorem cr_89_127 {X : Nat → Option zz_C} {s : mS} {N : Nat} {d : Nat} (hd : 24 ≤ d) {Q : zz_O → zz_H → Prop} {y0 : Int64} {h : zz_H} {t t' : cS} {o : kY} (hR : kR h t s) (hf : cf_89_127 N X y0 t = some (t', o)) (k : (∀ h', kR h' t' s → kE o Q h')) : zz_J zp_P zt_tf zt_fd X d zm_89 127 [] [.long y0] h Q := by
  unfold cf_89_127 at hf
  cases hf
  exact cb_89_127 hR  (fun {h} hR => k h hR)
def cf_89_120 (N : Nat) (X : Nat → Option zz_C) (x2 : Int64) (x4 : Int64) (t : cS) : kO := ko_call 1 (cf_116 N X x2 x4 t) (fun g1 v1 => co_l v1 (fun y => cf_89_127 N X y g1))
theorem cr_89_120 {X : Nat → Option zz_C} {s : mS} {N : Nat} {d : Nat} (hd : 24 ≤ d) {Q : zz_O → zz_H → Prop} {x2 : Int64} {x4 : Int64} {h : zz_H} {t t' : cS} {o : kY} (hR : kR h t s) (hf : cf_89_120 N X x2 x4 t = some (t', o)) (k : (∀ h', kR h' t' s → kE o Q h')) : zz_J zp_P zt_tf zt_fd X d zm_89 120 [(0, .ref 59), (2, .long x2), (4, .long x4)] [] h Q := by
  unfold cf_89_120 at hf
  obtain ⟨d', rfl⟩ : ∃ d', d = d' + 1 := ⟨d - 1, by omega⟩
  refine cb_89_120 hR  (fun {h} hR => ?_)
  rcases ko_call_ok hf with ⟨g1, v1, er, hf⟩ | ⟨g1, er, hq⟩
  · obtain ⟨y, hv, hf2⟩ := co_l_ok hf
    clear hf
    have hf := hf2
    clear hf2
    subst hv
    refine cr_116 (by omega) hR er (fun h hR => ?_)
    exact cr_89_127 hd hR hf k
  · refine cr_116 (by omega) hR er (fun h hR => ?_)
    exact ko_thrown hq hR k
def cf_89_135 (N : Nat) (X : Nat → Option zz_C) (y0 : Int64) (t : cS) : kO := some (t, .inl (some (.long y0)))
theorem cr_89_135 {X : Nat → Option zz_C} {s : mS} {N : Nat} {d : Nat} (hd : 24 ≤ d) {Q : zz_O → zz_H → Prop} {y0 : Int64} {h : zz_H} {t t' : cS} {o : kY} (hR : kR h t s) (hf : cf_89_135 N X y0 t = some (t', o)) (k : (∀ h', kR h' t' s → kE o Q h')) : zz_J zp_P zt_tf zt_fd X d zm_89 135 [] [.long y0] h Q := by
  unfold cf_89_135 at hf
  cases hf
  exact cb_89_135 hR  (fun {h} hR => k h hR)
def cf_89_128 (N : Nat) (X : Nat → Option zz_C) (x2 : Int64) (x4 : Int64) (t : cS) : kO := ko_call 1 (cf_118 N X x2 x4 t) (fun g1 v1 => co_l v1 (fun y => cf_89_135 N X y g1))
theorem cr_89_128 {X : Nat → Option zz_C} {s : mS} {N : Nat} {d : Nat} (hd : 24 ≤ d) {Q : zz_O → zz_H → Prop} {x2 : Int64} {x4 : Int64} {h : zz_H} {t t' : cS} {o : kY} (hR : kR h t s) (hf : cf_89_128 N X x2 x4 t = some (t', o)) (k : (∀ h', kR h' t' s → kE o Q h')) : zz_J zp_P zt_tf zt_fd X d zm_89 128 [(0, .ref 59), (2, .long x2), (4, .long x4)] [] h Q := by
  unfold cf_89_128 at hf
  obtain ⟨d', rfl⟩ : ∃ d', d = d' + 1 := ⟨d - 1, by omega⟩
  refine cb_89_128 hR  (fun {h} hR => ?_)
  rcases ko_call_ok hf with ⟨g1, v1, er, hf⟩ | ⟨g1, er, hq⟩
  · obtain ⟨y, hv, hf2⟩ := co_l_ok hf
    clear hf
    have hf := hf2
    clear hf2
    subst hv
    refine cr_118 (by omega) hR er (fun h hR => ?_)
    exact cr_89_135 hd hR hf k
  · refine cr_118 (by omega) hR er (fun h hR => ?_)
    exact ko_thrown hq hR k
def cf_89_158 (N : Nat) (X : Nat → Option zz_C) (y0 : Int64) (t : cS) : kO := some (t, .inl (some (.long y0)))
theorem cr_89_158 {X : Nat → Option zz_C} {s : mS} {N : Nat} {d : Nat} (hd : 24 ≤ d) {Q : zz_O → zz_H → Prop} {y0 : Int64} {h : zz_H} {t t' : cS} {o : kY} (hR : kR h t s) (hf : cf_89_158 N X y0 t = some (t', o)) (k : (∀ h', kR h' t' s → kE o Q h')) : zz_J zp_P zt_tf zt_fd X d zm_89 158 [] [.long y0] h Q := by
  unfold cf_89_158 at hf
  cases hf
  exact cb_89_158 hR  (fun {h} hR => k h hR)
def cf_89_155 (N : Nat) (X : Nat → Option zz_C) (y0 : Int32) (y1 : Int32) (t : cS) : kO := ko_call 1000 (cf_253 N X y0 y1 t) (fun g1 v1 => co_l v1 (fun y => cf_89_158 N X y g1))
theorem cr_89_155 {X : Nat → Option zz_C} {s : mS} {N : Nat} {d : Nat} (hd : 24 ≤ d) {Q : zz_O → zz_H → Prop} {y0 : Int32} {y1 : Int32} {h : zz_H} {t t' : cS} {o : kY} (hR : kR h t s) (hf : cf_89_155 N X y0 y1 t = some (t', o)) (k : (∀ h', kR h' t' s → kE o Q h')) : zz_J zp_P zt_tf zt_fd X d zm_89 155 [] [.int y1, .int y0] h Q := by
  unfold cf_89_155 at hf
  obtain ⟨d', rfl⟩ : ∃ d', d = d' + 1 := ⟨d - 1, by omega⟩
  refine cb_89_155 hR  (fun {h} hR => ?_)
  rcases ko_call_ok hf with ⟨g1, v1, er, hf⟩ | ⟨g1, er, hq⟩
  · obtain ⟨y, hv, hf2⟩ := co_l_ok hf
    clear hf
    have hf := hf2
    clear hf2
    subst hv
    refine cr_253 (by omega) hR er (fun h hR => ?_)
    exact cr_89_158 hd hR hf k
  · refine cr_253 (by omega) hR er (fun h hR => ?_)
    exact ko_thrown hq hR k
def cf_89_154 (N : Nat) (X : Nat → Option zz_C) (y0 : Int32) (t : cS) : kO := cf_89_155 N X y0 0 t
theorem cr_89_154 {X : Nat → Option zz_C} {s : mS} {N : Nat} {d : Nat} (hd : 24 ≤ d) {Q : zz_O → zz_H → Prop} {y0 : Int32} {h : zz_H} {t t' : cS} {o : kY} (hR : kR h t s) (hf : cf_89_154 N X y0 t = some (t', o)) (k : (∀ h', kR h' t' s → kE o Q h')) : zz_J zp_P zt_tf zt_fd X d zm_89 154 [] [.int y0] h Q := by
  unfold cf_89_154 at hf
  exact cb_89_154 hR  (fun hR => cr_89_155 hd hR hf k)
def cf_89_150 (N : Nat) (X : Nat → Option zz_C) (y0 : Int32) (t : cS) : kO := cf_89_155 N X y0 1 t
theorem cr_89_150 {X : Nat → Option zz_C} {s : mS} {N : Nat} {d : Nat} (hd : 24 ≤ d) {Q : zz_O → zz_H → Prop} {y0 : Int32} {h : zz_H} {t t' : cS} {o : kY} (hR : kR h t s) (hf : cf_89_150 N X y0 t = some (t', o)) (k : (∀ h', kR h' t' s → kE o Q h')) : zz_J zp_P zt_tf zt_fd X d zm_89 150 [] [.int y0] h Q := by
  unfold cf_89_150 at hf
  exact cb_89_150 hR  (fun hR => cr_89_155 hd hR hf k)
def cf_89_147 (N : Nat) (X : Nat → Option zz_C) (y0 : Int32) (y1 : Int32) (t : cS) : kO := if y1 = 0 then cf_89_154 N X y0 t else cf_89_150 N X y0 t
theorem cr_89_147 {X : Nat → Option zz_C} {s : mS} {N : Nat} {d : Nat} (hd : 24 ≤ d) {Q : zz_O → zz_H → Prop} {y0 : Int32} {y1 : Int32} {h : zz_H} {t t' : cS} {o : kY} (hR : kR h t s) (hf : cf_89_147 N X y0 y1 t = some (t', o)) (k : (∀ h', kR h' t' s → kE o Q h')) : zz_J zp_P zt_tf zt_fd X d zm_89 147 [] [.int y1, .int y0] h Q := by
  unfold cf_89_147 at hf
  refine cb_89_147 hR  (fun c {h} hR => ?_) (fun c {h} hR => ?_)
  · rw [if_pos c] at hf
    exact cr_89_154 hd hR hf k
  · rw [if_neg c] at hf
    exact cr_89_150 hd hR hf k
def cf_89_136 (N : Nat) (X : Nat → Option zz_C) (x2 : Int64) (x4 : Int64) (t : cS) : kO := ko_call 2 (cf_132 N X x2 x4 t) (fun g1 v1 => co_i v1 (fun y => cf_89_147 N X 0 y g1))
theorem cr_89_136 {X : Nat → Option zz_C} {s : mS} {N : Nat} {d : Nat} (hd : 24 ≤ d) {Q : zz_O → zz_H → Prop} {x2 : Int64} {x4 : Int64} {h : zz_H} {t t' : cS} {o : kY} (hR : kR h t s) (hf : cf_89_136 N X x2 x4 t = some (t', o)) (k : (∀ h', kR h' t' s → kE o Q h')) : zz_J zp_P zt_tf zt_fd X d zm_89 136 [(0, .ref 59), (2, .long x2), (4, .long x4)] [] h Q := by
  unfold cf_89_136 at hf
  obtain ⟨d', rfl⟩ : ∃ d', d = d' + 1 := ⟨d - 1, by omega⟩
  refine cb_89_136 hR  (fun {h} hR => ?_)
  rcases ko_call_ok hf with ⟨g1, v1, er, hf⟩ | ⟨g1, er, hq⟩
  · obtain ⟨y, hv, hf2⟩ := co_i_ok hf
    clear hf
    have hf := hf2
    clear hf2
    subst hv
    refine cr_132 (by omega) hR er (fun h hR => ?_)
    exact cr_89_147 hd hR hf k
  · refine cr_132 (by omega) hR er (fun h hR => ?_)
    exact ko_thrown hq hR k
def cf_89_163 (N : Nat) (X : Nat → Option zz_C) (y0 : Int64) (t : cS) : kO := some (t, .inl (some (.long y0)))
theorem cr_89_163 {X : Nat → Option zz_C} {s : mS} {N : Nat} {d : Nat} (hd : 24 ≤ d) {Q : zz_O → zz_H → Prop} {y0 : Int64} {h : zz_H} {t t' : cS} {o : kY} (hR : kR h t s) (hf : cf_89_163 N X y0 t = some (t', o)) (k : (∀ h', kR h' t' s → kE o Q h')) : zz_J zp_P zt_tf zt_fd X d zm_89 163 [] [.long y0] h Q := by
  unfold cf_89_163 at hf
  cases hf
  exact cb_89_163 hR  (fun {h} hR => k h hR)
def cf_89_159 (N : Nat) (X : Nat → Option zz_C)  (t : cS) : kO := ko_call 1000 (cf_254 N X 3 t) (fun g1 v1 => co_l v1 (fun y => cf_89_163 N X y g1))
theorem cr_89_159 {X : Nat → Option zz_C} {s : mS} {N : Nat} {d : Nat} (hd : 24 ≤ d) {Q : zz_O → zz_H → Prop}  {h : zz_H} {t t' : cS} {o : kY} (hR : kR h t s) (hf : cf_89_159 N X  t = some (t', o)) (k : (∀ h', kR h' t' s → kE o Q h')) : zz_J zp_P zt_tf zt_fd X d zm_89 159 [] [] h Q := by
  unfold cf_89_159 at hf
  obtain ⟨d', rfl⟩ : ∃ d', d = d' + 1 := ⟨d - 1, by omega⟩
  refine cb_89_159 hR  (fun {h} hR => ?_)
  rcases ko_call_ok hf with ⟨g1, v1, er, hf⟩ | ⟨g1, er, hq⟩
  · obtain ⟨y, hv, hf2⟩ := co_l_ok hf
    clear hf
    have hf := hf2
    clear hf2
    subst hv
    refine cr_254 (by omega) hR er (fun h hR => ?_)
    exact cr_89_163 hd hR hf k
  · refine cr_254 (by omega) hR er (fun h hR => ?_)
    exact ko_thrown hq hR k
def cf_89_7 (N : Nat) (X : Nat → Option zz_C) (x2 : Int64) (x4 : Int64) (y1 : Int32) (t : cS) : kO := co_b (hai X [] (zz_out + 43) y1) (fun w0 => if (Int32.toInt w0 < 25 ∨ 34 < Int32.toInt w0) then cf_89_159 N X  t else if w0 = 25 then cf_89_64 N X x2 x4 t else if w0 = 26 then cf_89_72 N X x2 x4 t else if w0 = 27 then cf_89_80 N X x2 x4 t else if w0 = 28 then cf_89_88 N X x2 x4 t else if w0 = 29 then cf_89_96 N X x2 x4 t else if w0 = 30 then cf_89_104 N X x2 x4 t else if w0 = 31 then cf_89_112 N X x2 x4 t else if w0 = 32 then cf_89_120 N X x2 x4 t else if w0 = 33 then cf_89_128 N X x2 x4 t else if w0 = 34 then cf_89_136 N X x2 x4 t else none)
theorem cr_89_7 {X : Nat → Option zz_C} {s : mS} {N : Nat} {d : Nat} (hd : 24 ≤ d) {Q : zz_O → zz_H → Prop} {x2 : Int64} {x4 : Int64} {y1 : Int32} {h : zz_H} {t t' : cS} {o : kY} (hR : kR h t s) (hf : cf_89_7 N X x2 x4 y1 t = some (t', o)) (k : (∀ h', kR h' t' s → kE o Q h')) : zz_J zp_P zt_tf zt_fd X d zm_89 7 [(0, .ref 59), (2, .long x2), (4, .long x4)] [.int y1, .ref (zz_out + 43)] h Q := by
  unfold cf_89_7 at hf
  obtain ⟨w0, e0, hf⟩ := co_b_ok hf
  refine cb_89_7 hR e0 (fun c {h} hR => ?_) (fun c {h} hR => ?_) (fun c {h} hR => ?_) (fun c {h} hR => ?_) (fun c {h} hR => ?_) (fun c {h} hR => ?_) (fun c {h} hR => ?_) (fun c {h} hR => ?_) (fun c {h} hR => ?_) (fun c {h} hR => ?_) (fun c {h} hR => ?_)
  · rw [if_neg (by rw [c]; decide)] at hf
    rw [if_pos c] at hf
    exact cr_89_64 hd hR hf k
  · rw [if_neg (by rw [c]; decide)] at hf
    rw [if_neg (by rw [c]; decide)] at hf
    rw [if_pos c] at hf
    exact cr_89_72 hd hR hf k
  · rw [if_neg (by rw [c]; decide)] at hf
    rw [if_neg (by rw [c]; decide)] at hf
    rw [if_neg (by rw [c]; decide)] at hf
    rw [if_pos c] at hf
    exact cr_89_80 hd hR hf k
  · rw [if_neg (by rw [c]; decide)] at hf
    rw [if_neg (by rw [c]; decide)] at hf
    rw [if_neg (by rw [c]; decide)] at hf
    rw [if_neg (by rw [c]; decide)] at hf
    rw [if_pos c] at hf
    exact cr_89_88 hd hR hf k
  · rw [if_neg (by rw [c]; decide)] at hf
    rw [if_neg (by rw [c]; decide)] at hf
    rw [if_neg (by rw [c]; decide)] at hf
    rw [if_neg (by rw [c]; decide)] at hf
    rw [if_neg (by rw [c]; decide)] at hf
    rw [if_pos c] at hf
    exact cr_89_96 hd hR hf k
  · rw [if_neg (by rw [c]; decide)] at hf
    rw [if_neg (by rw [c]; decide)] at hf
    rw [if_neg (by rw [c]; decide)] at hf
    rw [if_neg (by rw [c]; decide)] at hf
    rw [if_neg (by rw [c]; decide)] at hf
    rw [if_neg (by rw [c]; decide)] at hf
    rw [if_pos c] at hf
    exact cr_89_104 hd hR hf k
  · rw [if_neg (by rw [c]; decide)] at hf
    rw [if_neg (by rw [c]; decide)] at hf
    rw [if_neg (by rw [c]; decide)] at hf
    rw [if_neg (by rw [c]; decide)] at hf
    rw [if_neg (by rw [c]; decide)] at hf
    rw [if_neg (by rw [c]; decide)] at hf
    rw [if_neg (by rw [c]; decide)] at hf
    rw [if_pos c] at hf
    exact cr_89_112 hd hR hf k
  · rw [if_neg (by rw [c]; decide)] at hf
    rw [if_neg (by rw [c]; decide)] at hf
    rw [if_neg (by rw [c]; decide)] at hf
    rw [if_neg (by rw [c]; decide)] at hf
    rw [if_neg (by rw [c]; decide)] at hf
    rw [if_neg (by rw [c]; decide)] at hf
    rw [if_neg (by rw [c]; decide)] at hf
    rw [if_neg (by rw [c]; decide)] at hf
    rw [if_pos c] at hf
    exact cr_89_120 hd hR hf k
  · rw [if_neg (by rw [c]; decide)] at hf
    rw [if_neg (by rw [c]; decide)] at hf
    rw [if_neg (by rw [c]; decide)] at hf
    rw [if_neg (by rw [c]; decide)] at hf
    rw [if_neg (by rw [c]; decide)] at hf
    rw [if_neg (by rw [c]; decide)] at hf
    rw [if_neg (by rw [c]; decide)] at hf
    rw [if_neg (by rw [c]; decide)] at hf
    rw [if_neg (by rw [c]; decide)] at hf
    rw [if_pos c] at hf
    exact cr_89_128 hd hR hf k
  · rw [if_neg (by rw [c]; decide)] at hf
    rw [if_neg (by rw [c]; decide)] at hf
    rw [if_neg (by rw [c]; decide)] at hf
    rw [if_neg (by rw [c]; decide)] at hf
    rw [if_neg (by rw [c]; decide)] at hf
    rw [if_neg (by rw [c]; decide)] at hf
    rw [if_neg (by rw [c]; decide)] at hf
    rw [if_neg (by rw [c]; decide)] at hf
    rw [if_neg (by rw [c]; decide)] at hf
    rw [if_neg (by rw [c]; decide)] at hf
    rw [if_pos c] at hf
    exact cr_89_136 hd hR hf k
  · rw [if_pos c] at hf
    exact cr_89_159 hd hR hf k
def cf_89_0 (N : Nat) (X : Nat → Option zz_C) (x1 : Nat) (x2 : Int64) (x4 : Int64) (t : cS) : kO := if ¬ x1 < zz_out then (if hcl X [] x1 20 = true then (ko_call 20 (cf_356 N X x1 t) (fun g1 v1 => co_i v1 (fun y => cf_89_7 N X x2 x4 y g1))) else none) else none
theorem cr_89_0 {X : Nat → Option zz_C} {s : mS} {N : Nat} {d : Nat} (hd : 24 ≤ d) {Q : zz_O → zz_H → Prop} {x1 : Nat} {x2 : Int64} {x4 : Int64} {h : zz_H} {t t' : cS} {o : kY} (hR : kR h t s) (hf : cf_89_0 N X x1 x2 x4 t = some (t', o)) (k : (∀ h', kR h' t' s → kE o Q h')) : zz_J zp_P zt_tf zt_fd X d zm_89 0 [(0, .ref 59), (1, .ref x1), (2, .long x2), (4, .long x4)] [] h Q := by
  unfold cf_89_0 at hf
  obtain ⟨e0, hf⟩ := ko_if hf
  obtain ⟨e1, hf⟩ := ko_if hf
  obtain ⟨d', rfl⟩ : ∃ d', d = d' + 1 := ⟨d - 1, by omega⟩
  refine cb_89_0 hR e0 e1 (fun {h} hR => ?_)
  rcases ko_call_ok hf with ⟨g1, v1, er, hf⟩ | ⟨g1, er, hq⟩
  · obtain ⟨y, hv, hf2⟩ := co_i_ok hf
    clear hf
    have hf := hf2
    clear hf2
    subst hv
    refine cr_356 (by omega) hR er (fun h hR => ?_)
    exact cr_89_7 hd hR hf k
  · refine cr_356 (by omega) hR er (fun h hR => ?_)
    exact ko_thrown hq hR k
/-- two -/
def cf_89 (N : Nat) (X : Nat → Option zz_C) (x1 : Nat) (x2 : Int64) (x4 : Int64) (t : cS) : kO := cf_89_0 N X x1 x2 x4 t
theorem cr_89 {X : Nat → Option zz_C} {s : mS} {N : Nat} {d : Nat} (hd : 24 ≤ d) {Q : zz_O → zz_H → Prop} {x1 : Nat} {x2 : Int64} {x4 : Int64} {h : zz_H} {t t' : cS} {o : kY} (hR : kR h t s) (hf : cf_89 N X x1 x2 x4 t = some (t', o)) (k : ∀ h', kR h' t' s → kE o Q h') : zz_J zp_P zt_tf zt_fd X d zm_89 0 [(0, .ref 59), (1, .ref x1), (2, .long x2), (4, .long x4)] [] h Q := by
  unfold cf_89 at hf
  exact zz_J.weak (cr_89_0 hd hR hf k) rfl ⟨rfl, rfl, rfl, rfl, trivial⟩
/-! yX3_work (III)V -/
theorem cb_143_0 {X : Nat → Option zz_C} {h : zz_H} {t : cS} {s : mS} {d : Nat} {Q : zz_O → zz_H → Prop} {x1 : Int32} {x2 : Int32} {x3 : Int32} (hR : kR h t s) (k : ∀ {h : zz_H}, kR h t s → zz_J zp_P zt_tf zt_fd X d zm_121 0 [(0, .ref 42)] [] h (zz_after 2 Q (fun v h' => zz_J zp_P zt_tf zt_fd X (d + 1) zm_143 7 [(0, .ref 49), (1, .int x1), (2, .int x2), (3, .int x3)] (v.toList ++ []) h' Q))) : zz_J zp_P zt_tf zt_fd X (d + 1) zm_143 0 [(0, .ref 49), (1, .int x1), (2, .int x2), (3, .int x3)] [] h Q := by
  refine zz_J.n 1 rfl rfl rfl ?_
  refine zz_J.g 4 rfl (hR.gv (v := .ref 42) ko_49 (by decide) rfl) rfl ?_
  refine zz_J.cv 7 (as := []) rfl rfl (hR.clO ko_42 (by decide) (by decide)) (by decide) (Nat.le_of_ble_eq_true rfl) (Nat.le_of_ble_eq_true rfl) rfl (Nat.le_of_ble_eq_true rfl) rfl ?_
  refine zz_J.mono (k hR) ?_
  intro o h' hE
  cases o with
  | inl v => exact zz_J.weak hE rfl ⟨rfl, rfl, rfl, rfl, trivial⟩
  | inr q => exact hE
theorem cb_143_7 {X : Nat → Option zz_C} {h : zz_H} {t : cS} {s : mS} {d : Nat} {Q : zz_O → zz_H → Prop} {x1 : Int32} {x2 : Int32} {x3 : Int32} (hR : kR h t s) (k : ∀ {h : zz_H}, kR h t s → zz_J zp_P zt_tf zt_fd X d zm_167 0 [(0, .ref 49), (1, .int 1)] [] h (zz_after 3 Q (fun v h' => zz_J zp_P zt_tf zt_fd X (d + 1) zm_143 12 [(0, .ref 49), (1, .int x1), (2, .int x2), (3, .int x3)] (v.toList ++ []) h' Q))) : zz_J zp_P zt_tf zt_fd X (d + 1) zm_143 7 [(0, .ref 49), (1, .int x1), (2, .int x2), (3, .int x3)] [] h Q := by
  refine zz_J.n 8 rfl rfl rfl ?_
  refine zz_J.c 9 (.int 1) rfl rfl rfl rfl ?_
  refine zz_J.cv 12 (as := []) rfl rfl (hR.clO ko_49 (by decide) (by decide)) (by decide) (Nat.le_of_ble_eq_true rfl) (Nat.le_of_ble_eq_true rfl) rfl (Nat.le_of_ble_eq_true rfl) rfl ?_
  refine zz_J.mono (k hR) ?_
  intro o h' hE
  cases o with
  | inl v => exact zz_J.weak hE rfl ⟨rfl, rfl, rfl, rfl, trivial⟩
  | inr q => exact hE
theorem cb_143_12 {X : Nat → Option zz_C} {h : zz_H} {t : cS} {s : mS} {d : Nat} {Q : zz_O → zz_H → Prop} {x1 : Int32} {x2 : Int32} {x3 : Int32} {y0 : Int64} (hR : kR h t s) (k : ∀ {h : zz_H}, kR h t s → zz_J zp_P zt_tf zt_fd X d zm_167 0 [(0, .ref 49), (1, .int 2)] [] h (zz_after 3 Q (fun v h' => zz_J zp_P zt_tf zt_fd X (d + 1) zm_143 19 [(0, .ref 49), (1, .int x1), (2, .int x2), (3, .int x3), (4, .long y0)] (v.toList ++ []) h' Q))) : zz_J zp_P zt_tf zt_fd X (d + 1) zm_143 12 [(0, .ref 49), (1, .int x1), (2, .int x2), (3, .int x3)] [.long y0] h Q := by
  refine zz_J.n 14 rfl rfl rfl ?_
  refine zz_J.n 15 rfl rfl rfl ?_
  refine zz_J.c 16 (.int 2) rfl rfl rfl rfl ?_
  refine zz_J.cv 19 (as := []) rfl rfl (hR.clO ko_49 (by decide) (by decide)) (by decide) (Nat.le_of_ble_eq_true rfl) (Nat.le_of_ble_eq_true rfl) rfl (Nat.le_of_ble_eq_true rfl) rfl ?_
  refine zz_J.mono (k hR) ?_
  intro o h' hE
  cases o with
  | inl v => exact zz_J.weak hE rfl ⟨rfl, rfl, rfl, rfl, rfl, trivial⟩
  | inr q => exact hE
theorem cb_143_19 {X : Nat → Option zz_C} {h : zz_H} {t : cS} {s : mS} {d : Nat} {Q : zz_O → zz_H → Prop} {x1 : Int32} {x2 : Int32} {x3 : Int32} {x4 : Int64} {y0 : Int64} (hR : kR h t s) (c13 : x1 = 13 → (∀ {h : zz_H}, kR h t s → zz_J zp_P zt_tf zt_fd X d zm_143 265 [(0, .ref 49), (2, .int x2), (3, .int x3)] [] h Q)) (c14 : x1 = 14 → (∀ {h : zz_H}, kR h t s → zz_J zp_P zt_tf zt_fd X d zm_143 283 [(0, .ref 49), (2, .int x2)] [] h Q)) (c15 : x1 = 15 → (∀ {h : zz_H}, kR h t s → zz_J zp_P zt_tf zt_fd X d zm_143 274 [(0, .ref 49), (2, .int x2), (3, .int x3)] [] h Q)) (c16 : x1 = 16 → (∀ {h : zz_H}, kR h t s → zz_J zp_P zt_tf zt_fd X d zm_143 291 [(0, .ref 49), (2, .int x2)] [] h Q)) (c17 : x1 = 17 → (∀ {h : zz_H}, kR h t s → zz_J zp_P zt_tf zt_fd X d zm_143 223 [(0, .ref 49), (3, .int x3), (4, .long x4), (6, .long y0)] [] h Q)) (c18 : x1 = 18 → (∀ {h : zz_H}, kR h t s → zz_J zp_P zt_tf zt_fd X d zm_143 248 [(0, .ref 49), (2, .int x2), (3, .int x3)] [] h Q)) (c19 : x1 = 19 → (∀ {h : zz_H}, kR h t s → zz_J zp_P zt_tf zt_fd X d zm_143 88 [(0, .ref 49), (2, .int x2), (3, .int x3), (4, .long x4), (6, .long y0)] [] h Q)) (c20 : x1 = 20 → (∀ {h : zz_H}, kR h t s → zz_J zp_P zt_tf zt_fd X d zm_143 177 [(0, .ref 49), (2, .int x2), (3, .int x3)] [] h Q)) (c21 : x1 = 21 → (∀ {h : zz_H}, kR h t s → zz_J zp_P zt_tf zt_fd X d zm_143 109 [(0, .ref 49), (3, .int x3), (4, .long x4), (6, .long y0)] [] h Q)) (c22 : x1 = 22 → (∀ {h : zz_H}, kR h t s → zz_J zp_P zt_tf zt_fd X d zm_143 129 [(0, .ref 49), (2, .int x2), (3, .int x3), (4, .long x4)] [] h Q)) (c23 : x1 = 23 → (∀ {h : zz_H}, kR h t s → zz_J zp_P zt_tf zt_fd X d zm_143 152 [(0, .ref 49), (2, .int x2), (3, .int x3), (4, .long x4), (6, .long y0)] [] h Q)) (c24 : x1 = 24 → (∀ {h : zz_H}, kR h t s → zz_J zp_P zt_tf zt_fd X d zm_143 200 [(0, .ref 49), (2, .int x2), (3, .int x3)] [] h Q)) (c25 : x1 = 25 → (∀ {h : zz_H}, kR h t s → zz_J zp_P zt_tf zt_fd X d zm_143 257 [(0, .ref 49), (3, .int x3)] [] h Q)) (kd : (Int32.toInt x1 < 13 ∨ 25 < Int32.toInt x1) → (∀ {h : zz_H}, kR h t s → zz_J zp_P zt_tf zt_fd X d zm_143 291 [(0, .ref 49), (2, .int x2)] [] h Q)) : zz_J zp_P zt_tf zt_fd X d zm_143 19 [(0, .ref 49), (1, .int x1), (2, .int x2), (3, .int x3), (4, .long x4)] [.long y0] h Q := by
  refine zz_J.n 21 rfl rfl rfl ?_
  refine zz_J.n 22 rfl rfl rfl ?_
  by_cases hx : Int32.toInt x1 < 13 ∨ 25 < Int32.toInt x1
  · exact zz_J.td 291 rfl hx (by decide) rfl (zz_J.weak (kd hx hR) rfl ⟨rfl, rfl, trivial⟩)
  · have hv : Int32.toInt x1 = 13 ∨ Int32.toInt x1 = 14 ∨ Int32.toInt x1 = 15 ∨ Int32.toInt x1 = 16 ∨ Int32.toInt x1 = 17 ∨ Int32.toInt x1 = 18 ∨ Int32.toInt x1 = 19 ∨ Int32.toInt x1 = 20 ∨ Int32.toInt x1 = 21 ∨ Int32.toInt x1 = 22 ∨ Int32.toInt x1 = 23 ∨ Int32.toInt x1 = 24 ∨ Int32.toInt x1 = 25 := by omega
    rcases hv with hv | hv | hv | hv | hv | hv | hv | hv | hv | hv | hv | hv | hv
    · have e : x1 = 13 := Int32.toInt_inj.mp (hv.trans rfl)
      exact zz_J.tv 265 rfl e rfl (zz_J.weak (c13 e hR) rfl ⟨rfl, rfl, rfl, trivial⟩)
    · have e : x1 = 14 := Int32.toInt_inj.mp (hv.trans rfl)
      exact zz_J.tv 283 rfl e rfl (zz_J.weak (c14 e hR) rfl ⟨rfl, rfl, trivial⟩)
    · have e : x1 = 15 := Int32.toInt_inj.mp (hv.trans rfl)
      exact zz_J.tv 274 rfl e rfl (zz_J.weak (c15 e hR) rfl ⟨rfl, rfl, rfl, trivial⟩)
    · have e : x1 = 16 := Int32.toInt_inj.mp (hv.trans rfl)
      exact zz_J.tv 291 rfl e rfl (zz_J.weak (c16 e hR) rfl ⟨rfl, rfl, trivial⟩)
    · have e : x1 = 17 := Int32.toInt_inj.mp (hv.trans rfl)
      exact zz_J.tv 223 rfl e rfl (zz_J.weak (c17 e hR) rfl ⟨rfl, rfl, rfl, rfl, trivial⟩)
    · have e : x1 = 18 := Int32.toInt_inj.mp (hv.trans rfl)
      exact zz_J.tv 248 rfl e rfl (zz_J.weak (c18 e hR) rfl ⟨rfl, rfl, rfl, trivial⟩)
    · have e : x1 = 19 := Int32.toInt_inj.mp (hv.trans rfl)
      exact zz_J.tv 88 rfl e rfl (zz_J.weak (c19 e hR) rfl ⟨rfl, rfl, rfl, rfl, rfl, trivial⟩)
    · have e : x1 = 20 := Int32.toInt_inj.mp (hv.trans rfl)
      exact zz_J.tv 177 rfl e rfl (zz_J.weak (c20 e hR) rfl ⟨rfl, rfl, rfl, trivial⟩)
    · have e : x1 = 21 := Int32.toInt_inj.mp (hv.trans rfl)
      exact zz_J.tv 109 rfl e rfl (zz_J.weak (c21 e hR) rfl ⟨rfl, rfl, rfl, rfl, trivial⟩)
    · have e : x1 = 22 := Int32.toInt_inj.mp (hv.trans rfl)
      exact zz_J.tv 129 rfl e rfl (zz_J.weak (c22 e hR) rfl ⟨rfl, rfl, rfl, rfl, trivial⟩)
    · have e : x1 = 23 := Int32.toInt_inj.mp (hv.trans rfl)
      exact zz_J.tv 152 rfl e rfl (zz_J.weak (c23 e hR) rfl ⟨rfl, rfl, rfl, rfl, rfl, trivial⟩)
    · have e : x1 = 24 := Int32.toInt_inj.mp (hv.trans rfl)
      exact zz_J.tv 200 rfl e rfl (zz_J.weak (c24 e hR) rfl ⟨rfl, rfl, rfl, trivial⟩)
    · have e : x1 = 25 := Int32.toInt_inj.mp (hv.trans rfl)
      exact zz_J.tv 257 rfl e rfl (zz_J.weak (c25 e hR) rfl ⟨rfl, rfl, trivial⟩)
theorem cb_143_88 {X : Nat → Option zz_C} {h : zz_H} {t : cS} {s : mS} {d : Nat} {Q : zz_O → zz_H → Prop} {x2 : Int32} {x3 : Int32} {x4 : Int64} {x6 : Int64} (hR : kR h t s) (k : ∀ {h : zz_H}, kR h t s → zz_J zp_P zt_tf zt_fd X d zm_222 0 [(0, .ref 58), (1, .int x2), (2, .long x6), (4, .long x4)] [] h (zz_after 8 Q (fun v h' => zz_J zp_P zt_tf zt_fd X (d + 1) zm_143 101 [(3, .int x3)] (v.toList ++ [.ref 49]) h' Q))) : zz_J zp_P zt_tf zt_fd X (d + 1) zm_143 88 [(0, .ref 49), (2, .int x2), (3, .int x3), (4, .long x4), (6, .long x6)] [] h Q := by
  refine zz_J.n 89 rfl rfl rfl ?_
  refine zz_J.n 90 rfl rfl rfl ?_
  refine zz_J.g 93 rfl (hR.gv (v := .ref 58) ko_49 (by decide) rfl) rfl ?_
  refine zz_J.n 94 rfl rfl rfl ?_
  refine zz_J.n 96 rfl rfl rfl ?_
  refine zz_J.n 98 rfl rfl rfl ?_
  refine zz_J.cv 101 (as := [.ref 49]) rfl rfl (hR.clO ko_58 (by decide) (by decide)) (by decide) (Nat.le_of_ble_eq_true rfl) (Nat.le_of_ble_eq_true rfl) rfl (Nat.le_of_ble_eq_true rfl) rfl ?_
  refine zz_J.mono (k hR) ?_
  intro o h' hE
  cases o with
  | inl v => exact zz_J.weak hE rfl ⟨rfl, trivial⟩
  | inr q => exact hE
theorem cb_143_101 {X : Nat → Option zz_C} {h : zz_H} {t : cS} {s : mS} {d : Nat} {Q : zz_O → zz_H → Prop} {x3 : Int32} {y1 : Int64} (hR : kR h t s) (k : ∀ {h : zz_H}, kR h t s → zz_J zp_P zt_tf zt_fd X d zm_144 0 [(0, .ref 49), (1, .long y1), (3, .int 2), (4, .int x3)] [] h (zz_after 3 Q (fun v h' => zz_J zp_P zt_tf zt_fd X (d + 1) zm_143 106 [] (v.toList ++ []) h' Q))) : zz_J zp_P zt_tf zt_fd X (d + 1) zm_143 101 [(3, .int x3)] [.long y1, .ref 49] h Q := by
  refine zz_J.c 102 (.int 2) rfl rfl rfl rfl ?_
  refine zz_J.n 103 rfl rfl rfl ?_
  refine zz_J.cv 106 (as := []) rfl rfl (hR.clO ko_49 (by decide) (by decide)) (by decide) (Nat.le_of_ble_eq_true rfl) (Nat.le_of_ble_eq_true rfl) rfl (Nat.le_of_ble_eq_true rfl) rfl ?_
  refine zz_J.mono (k hR) ?_
  intro o h' hE
  cases o with
  | inl v => exact zz_J.weak hE rfl trivial
  | inr q => exact hE
theorem cb_143_106 {X : Nat → Option zz_C} {h : zz_H} {t : cS} {s : mS} {d : Nat} {Q : zz_O → zz_H → Prop}  (hR : kR h t s) (k : ∀ {h : zz_H}, kR h t s → zz_J zp_P zt_tf zt_fd X d zm_143 296 [] [] h Q) : zz_J zp_P zt_tf zt_fd X d zm_143 106 [] [] h Q := by
  refine zz_J.n 296 rfl rfl rfl ?_
  exact zz_J.weak (k hR) rfl trivial
theorem cb_143_109 {X : Nat → Option zz_C} {h : zz_H} {t : cS} {s : mS} {d : Nat} {Q : zz_O → zz_H → Prop} {x3 : Int32} {x4 : Int64} {x6 : Int64} (hR : kR h t s) (k : ∀ {h : zz_H}, kR h t s → zz_J zp_P zt_tf zt_fd X d zm_223 0 [(0, .ref 58), (1, .long x6), (3, .long x4)] [] h (zz_after 8 Q (fun v h' => zz_J zp_P zt_tf zt_fd X (d + 1) zm_143 121 [(3, .int x3)] (v.toList ++ [.ref 49]) h' Q))) : zz_J zp_P zt_tf zt_fd X (d + 1) zm_143 109 [(0, .ref 49), (3, .int x3), (4, .long x4), (6, .long x6)] [] h Q := by
  refine zz_J.n 110 rfl rfl rfl ?_
  refine zz_J.n 111 rfl rfl rfl ?_
  refine zz_J.g 114 rfl (hR.gv (v := .ref 58) ko_49 (by decide) rfl) rfl ?_
  refine zz_J.n 116 rfl rfl rfl ?_
  refine zz_J.n 118 rfl rfl rfl ?_
  refine zz_J.cv 121 (as := [.ref 49]) rfl rfl (hR.clO ko_58 (by decide) (by decide)) (by decide) (Nat.le_of_ble_eq_true rfl) (Nat.le_of_ble_eq_true rfl) rfl (Nat.le_of_ble_eq_true rfl) rfl ?_
  refine zz_J.mono (k hR) ?_
  intro o h' hE
  cases o with
  | inl v => exact zz_J.weak hE rfl ⟨rfl, trivial⟩
  | inr q => exact hE
theorem cb_143_121 {X : Nat → Option zz_C} {h : zz_H} {t : cS} {s : mS} {d : Nat} {Q : zz_O → zz_H → Prop} {x3 : Int32} {y1 : Int64} (hR : kR h t s) (k : ∀ {h : zz_H}, kR h t s → zz_J zp_P zt_tf zt_fd X d zm_144 0 [(0, .ref 49), (1, .long y1), (3, .int 2), (4, .int x3)] [] h (zz_after 3 Q (fun v h' => zz_J zp_P zt_tf zt_fd X (d + 1) zm_143 126 [] (v.toList ++ []) h' Q))) : zz_J zp_P zt_tf zt_fd X (d + 1) zm_143 121 [(3, .int x3)] [.long y1, .ref 49] h Q := by
  refine zz_J.c 122 (.int 2) rfl rfl rfl rfl ?_
  refine zz_J.n 123 rfl rfl rfl ?_
  refine zz_J.cv 126 (as := []) rfl rfl (hR.clO ko_49 (by decide) (by decide)) (by decide) (Nat.le_of_ble_eq_true rfl) (Nat.le_of_ble_eq_true rfl) rfl (Nat.le_of_ble_eq_true rfl) rfl ?_
  refine zz_J.mono (k hR) ?_
  intro o h' hE
  cases o with
  | inl v => exact zz_J.weak hE rfl trivial
  | inr q => exact hE
theorem cb_143_126 {X : Nat → Option zz_C} {h : zz_H} {t : cS} {s : mS} {d : Nat} {Q : zz_O → zz_H → Prop}  (hR : kR h t s) (k : ∀ {h : zz_H}, kR h t s → zz_J zp_P zt_tf zt_fd X d zm_143 296 [] [] h Q) : zz_J zp_P zt_tf zt_fd X d zm_143 126 [] [] h Q := by
  refine zz_J.n 296 rfl rfl rfl ?_
  exact zz_J.weak (k hR) rfl trivial
theorem cb_143_129 {X : Nat → Option zz_C} {h : zz_H} {t : cS} {s : mS} {d : Nat} {Q : zz_O → zz_H → Prop} {x2 : Int32} {x3 : Int32} {x4 : Int64} (hR : kR h t s) (k : ∀ {h : zz_H}, kR h t s → zz_J zp_P zt_tf zt_fd X d zm_248 0 [(0, .long (Int32.toInt64 x2))] [] h (zz_after 0 Q (fun v h' => zz_J zp_P zt_tf zt_fd X (d + 1) zm_143 139 [(3, .int x3), (4, .long x4)] (v.toList ++ [.ref 59, .ref 49]) h' Q))) : zz_J zp_P zt_tf zt_fd X (d + 1) zm_143 129 [(0, .ref 49), (2, .int x2), (3, .int x3), (4, .long x4)] [] h Q := by
  refine zz_J.n 130 rfl rfl rfl ?_
  refine zz_J.n 131 rfl rfl rfl ?_
  refine zz_J.g 134 rfl (hR.gv (v := .ref 59) ko_49 (by decide) rfl) rfl ?_
  refine zz_J.n 135 rfl rfl rfl ?_
  refine zz_J.n 136 rfl rfl rfl ?_
  refine zz_J.cl (M' := zm_248) 139 rfl rfl (by decide) rfl rfl ⟨rfl, Nat.le_of_ble_eq_true rfl⟩ rfl ?_
  refine zz_J.mono (k hR) ?_
  intro o h' hE
  cases o with
  | inl v => exact zz_J.weak hE rfl ⟨rfl, rfl, trivial⟩
  | inr q => exact hE
theorem cb_143_139 {X : Nat → Option zz_C} {h : zz_H} {t : cS} {s : mS} {d : Nat} {Q : zz_O → zz_H → Prop} {x3 : Int32} {x4 : Int64} {y2 : Nat} (hR : kR h t s) (k : ∀ {h : zz_H}, kR h t s → zz_J zp_P zt_tf zt_fd X d zm_88 0 [(0, .ref 59), (1, .ref y2), (2, .long x4)] [] h (zz_after 1 Q (fun v h' => zz_J zp_P zt_tf zt_fd X (d + 1) zm_143 144 [(3, .int x3)] (v.toList ++ [.ref 49]) h' Q))) : zz_J zp_P zt_tf zt_fd X (d + 1) zm_143 139 [(3, .int x3), (4, .long x4)] [.ref y2, .ref 59, .ref 49] h Q := by
  refine zz_J.n 141 rfl rfl rfl ?_
  refine zz_J.cv 144 (as := [.ref 49]) rfl rfl (hR.clO ko_59 (by decide) (by decide)) (by decide) (Nat.le_of_ble_eq_true rfl) (Nat.le_of_ble_eq_true rfl) rfl (Nat.le_of_ble_eq_true rfl) rfl ?_
  refine zz_J.mono (k hR) ?_
  intro o h' hE
  cases o with
  | inl v => exact zz_J.weak hE rfl ⟨rfl, trivial⟩
  | inr q => exact hE
theorem cb_143_144 {X : Nat → Option zz_C} {h : zz_H} {t : cS} {s : mS} {d : Nat} {Q : zz_O → zz_H → Prop} {x3 : Int32} {y1 : Int64} (hR : kR h t s) (k : ∀ {h : zz_H}, kR h t s → zz_J zp_P zt_tf zt_fd X d zm_144 0 [(0, .ref 49), (1, .long y1), (3, .int 1), (4, .int x3)] [] h (zz_after 3 Q (fun v h' => zz_J zp_P zt_tf zt_fd X (d + 1) zm_143 149 [] (v.toList ++ []) h' Q))) : zz_J zp_P zt_tf zt_fd X (d + 1) zm_143 144 [(3, .int x3)] [.long y1, .ref 49] h Q := by
  refine zz_J.c 145 (.int 1) rfl rfl rfl rfl ?_
  refine zz_J.n 146 rfl rfl rfl ?_
  refine zz_J.cv 149 (as := []) rfl rfl (hR.clO ko_49 (by decide) (by decide)) (by decide) (Nat.le_of_ble_eq_true rfl) (Nat.le_of_ble_eq_true rfl) rfl (Nat.le_of_ble_eq_true rfl) rfl ?_
  refine zz_J.mono (k hR) ?_
  intro o h' hE
  cases o with
  | inl v => exact zz_J.weak hE rfl trivial
  | inr q => exact hE
theorem cb_143_149 {X : Nat → Option zz_C} {h : zz_H} {t : cS} {s : mS} {d : Nat} {Q : zz_O → zz_H → Prop}  (hR : kR h t s) (k : ∀ {h : zz_H}, kR h t s → zz_J zp_P zt_tf zt_fd X d zm_143 296 [] [] h Q) : zz_J zp_P zt_tf zt_fd X d zm_143 149 [] [] h Q := by
  refine zz_J.n 296 rfl rfl rfl ?_
  exact zz_J.weak (k hR) rfl trivial
theorem cb_143_152 {X : Nat → Option zz_C} {h : zz_H} {t : cS} {s : mS} {d : Nat} {Q : zz_O → zz_H → Prop} {x2 : Int32} {x3 : Int32} {x4 : Int64} {x6 : Int64} (hR : kR h t s) (k : ∀ {h : zz_H}, kR h t s → zz_J zp_P zt_tf zt_fd X d zm_248 0 [(0, .long (Int32.toInt64 x2))] [] h (zz_after 0 Q (fun v h' => zz_J zp_P zt_tf zt_fd X (d + 1) zm_143 162 [(3, .int x3), (4, .long x4), (6, .long x6)] (v.toList ++ [.ref 59, .ref 49]) h' Q))) : zz_J zp_P zt_tf zt_fd X (d + 1) zm_143 152 [(0, .ref 49), (2, .int x2), (3, .int x3), (4, .long x4), (6, .long x6)] [] h Q := by
  refine zz_J.n 153 rfl rfl rfl ?_
  refine zz_J.n 154 rfl rfl rfl ?_
  refine zz_J.g 157 rfl (hR.gv (v := .ref 59) ko_49 (by decide) rfl) rfl ?_
  refine zz_J.n 158 rfl rfl rfl ?_
  refine zz_J.n 159 rfl rfl rfl ?_
  refine zz_J.cl (M' := zm_248) 162 rfl rfl (by decide) rfl rfl ⟨rfl, Nat.le_of_ble_eq_true rfl⟩ rfl ?_
  refine zz_J.mono (k hR) ?_
  intro o h' hE
  cases o with
  | inl v => exact zz_J.weak hE rfl ⟨rfl, rfl, rfl, trivial⟩
  | inr q => exact hE
theorem cb_143_162 {X : Nat → Option zz_C} {h : zz_H} {t : cS} {s : mS} {d : Nat} {Q : zz_O → zz_H → Prop} {x3 : Int32} {x4 : Int64} {x6 : Int64} {y2 : Nat} (hR : kR h t s) (k : ∀ {h : zz_H}, kR h t s → zz_J zp_P zt_tf zt_fd X d zm_89 0 [(0, .ref 59), (1, .ref y2), (2, .long x6), (4, .long x4)] [] h (zz_after 1 Q (fun v h' => zz_J zp_P zt_tf zt_fd X (d + 1) zm_143 169 [(3, .int x3)] (v.toList ++ [.ref 49]) h' Q))) : zz_J zp_P zt_tf zt_fd X (d + 1) zm_143 162 [(3, .int x3), (4, .long x4), (6, .long x6)] [.ref y2, .ref 59, .ref 49] h Q := by
  refine zz_J.n 164 rfl rfl rfl ?_
  refine zz_J.n 166 rfl rfl rfl ?_
  refine zz_J.cv 169 (as := [.ref 49]) rfl rfl (hR.clO ko_59 (by decide) (by decide)) (by decide) (Nat.le_of_ble_eq_true rfl) (Nat.le_of_ble_eq_true rfl) rfl (Nat.le_of_ble_eq_true rfl) rfl ?_
  refine zz_J.mono (k hR) ?_
  intro o h' hE
  cases o with
  | inl v => exact zz_J.weak hE rfl ⟨rfl, trivial⟩
  | inr q => exact hE
theorem cb_143_169 {X : Nat → Option zz_C} {h : zz_H} {t : cS} {s : mS} {d : Nat} {Q : zz_O → zz_H → Prop} {x3 : Int32} {y1 : Int64} (hR : kR h t s) (k : ∀ {h : zz_H}, kR h t s → zz_J zp_P zt_tf zt_fd X d zm_144 0 [(0, .ref 49), (1, .long y1), (3, .int 2), (4, .int x3)] [] h (zz_after 3 Q (fun v h' => zz_J zp_P zt_tf zt_fd X (d + 1) zm_143 174 [] (v.toList ++ []) h' Q))) : zz_J zp_P zt_tf zt_fd X (d + 1) zm_143 169 [(3, .int x3)] [.long y1, .ref 49] h Q := by
  refine zz_J.c 170 (.int 2) rfl rfl rfl rfl ?_
  refine zz_J.n 171 rfl rfl rfl ?_
  refine zz_J.cv 174 (as := []) rfl rfl (hR.clO ko_49 (by decide) (by decide)) (by decide) (Nat.le_of_ble_eq_true rfl) (Nat.le_of_ble_eq_true rfl) rfl (Nat.le_of_ble_eq_true rfl) rfl ?_
  refine zz_J.mono (k hR) ?_
  intro o h' hE
  cases o with
  | inl v => exact zz_J.weak hE rfl trivial
  | inr q => exact hE
theorem cb_143_174 {X : Nat → Option zz_C} {h : zz_H} {t : cS} {s : mS} {d : Nat} {Q : zz_O → zz_H → Prop}  (hR : kR h t s) (k : ∀ {h : zz_H}, kR h t s → zz_J zp_P zt_tf zt_fd X d zm_143 296 [] [] h Q) : zz_J zp_P zt_tf zt_fd X d zm_143 174 [] [] h Q := by
  refine zz_J.n 296 rfl rfl rfl ?_
  exact zz_J.weak (k hR) rfl trivial
theorem cb_143_177 {X : Nat → Option zz_C} {h : zz_H} {t : cS} {s : mS} {d : Nat} {Q : zz_O → zz_H → Prop} {x2 : Int32} {x3 : Int32} (hR : kR h t s) (k : ∀ {h : zz_H}, kR h t s → zz_J zp_P zt_tf zt_fd X d zm_145 0 [(0, .ref 49), (1, .int x2)] [] h (zz_after 3 Q (fun v h' => zz_J zp_P zt_tf zt_fd X (d + 1) zm_143 182 [(0, .ref 49), (2, .int x2), (3, .int x3)] (v.toList ++ []) h' Q))) : zz_J zp_P zt_tf zt_fd X (d + 1) zm_143 177 [(0, .ref 49), (2, .int x2), (3, .int x3)] [] h Q := by
  refine zz_J.n 178 rfl rfl rfl ?_
  refine zz_J.n 179 rfl rfl rfl ?_
  refine zz_J.cv 182 (as := []) rfl rfl (hR.clO ko_49 (by decide) (by decide)) (by decide) (Nat.le_of_ble_eq_true rfl) (Nat.le_of_ble_eq_true rfl) rfl (Nat.le_of_ble_eq_true rfl) rfl ?_
  refine zz_J.mono (k hR) ?_
  intro o h' hE
  cases o with
  | inl v => exact zz_J.weak hE rfl ⟨rfl, rfl, rfl, trivial⟩
  | inr q => exact hE
theorem cb_143_182 {X : Nat → Option zz_C} {h : zz_H} {t : cS} {s : mS} {d : Nat} {Q : zz_O → zz_H → Prop} {x2 : Int32} {x3 : Int32} (hR : kR h t s) (k : ∀ {h : zz_H}, kR h t s → zz_J zp_P zt_tf zt_fd X d zm_127 0 [(0, .ref 42), (1, .int 1), (2, .int 0)] [] h (zz_after 2 Q (fun v h' => zz_J zp_P zt_tf zt_fd X (d + 1) zm_143 192 [(2, .int x2), (3, .int x3)] (v.toList ++ [.ref 49]) h' Q))) : zz_J zp_P zt_tf zt_fd X (d + 1) zm_143 182 [(0, .ref 49), (2, .int x2), (3, .int x3)] [] h Q := by
  refine zz_J.n 183 rfl rfl rfl ?_
  refine zz_J.n 184 rfl rfl rfl ?_
  refine zz_J.g 187 rfl (hR.gv (v := .ref 42) ko_49 (by decide) rfl) rfl ?_
  refine zz_J.c 188 (.int 1) rfl rfl rfl rfl ?_
  refine zz_J.c 189 (.int 0) rfl rfl rfl rfl ?_
  refine zz_J.cv 192 (as := [.ref 49]) rfl rfl (hR.clO ko_42 (by decide) (by decide)) (by decide) (Nat.le_of_ble_eq_true rfl) (Nat.le_of_ble_eq_true rfl) rfl (Nat.le_of_ble_eq_true rfl) rfl ?_
  refine zz_J.mono (k hR) ?_
  intro o h' hE
  cases o with
  | inl v => exact zz_J.weak hE rfl ⟨rfl, rfl, trivial⟩
  | inr q => exact hE
theorem cb_143_192 {X : Nat → Option zz_C} {h : zz_H} {t : cS} {s : mS} {d : Nat} {Q : zz_O → zz_H → Prop} {x2 : Int32} {x3 : Int32} {y1 : Int64} (hR : kR h t s) (k : ∀ {h : zz_H}, kR h t s → zz_J zp_P zt_tf zt_fd X d zm_144 0 [(0, .ref 49), (1, .long y1), (3, .int x2), (4, .int x3)] [] h (zz_after 3 Q (fun v h' => zz_J zp_P zt_tf zt_fd X (d + 1) zm_143 197 [] (v.toList ++ []) h' Q))) : zz_J zp_P zt_tf zt_fd X (d + 1) zm_143 192 [(2, .int x2), (3, .int x3)] [.long y1, .ref 49] h Q := by
  refine zz_J.n 193 rfl rfl rfl ?_
  refine zz_J.n 194 rfl rfl rfl ?_
  refine zz_J.cv 197 (as := []) rfl rfl (hR.clO ko_49 (by decide) (by decide)) (by decide) (Nat.le_of_ble_eq_true rfl) (Nat.le_of_ble_eq_true rfl) rfl (Nat.le_of_ble_eq_true rfl) rfl ?_
  refine zz_J.mono (k hR) ?_
  intro o h' hE
  cases o with
  | inl v => exact zz_J.weak hE rfl trivial
  | inr q => exact hE
theorem cb_143_197 {X : Nat → Option zz_C} {h : zz_H} {t : cS} {s : mS} {d : Nat} {Q : zz_O → zz_H → Prop}  (hR : kR h t s) (k : ∀ {h : zz_H}, kR h t s → zz_J zp_P zt_tf zt_fd X d zm_143 296 [] [] h Q) : zz_J zp_P zt_tf zt_fd X d zm_143 197 [] [] h Q := by
  refine zz_J.n 296 rfl rfl rfl ?_
  exact zz_J.weak (k hR) rfl trivial
theorem cb_143_200 {X : Nat → Option zz_C} {h : zz_H} {t : cS} {s : mS} {d : Nat} {Q : zz_O → zz_H → Prop} {x2 : Int32} {x3 : Int32} (hR : kR h t s) (k : ∀ {h : zz_H}, kR h t s → zz_J zp_P zt_tf zt_fd X d zm_145 0 [(0, .ref 49), (1, .int x2)] [] h (zz_after 3 Q (fun v h' => zz_J zp_P zt_tf zt_fd X (d + 1) zm_143 205 [(0, .ref 49), (2, .int x2), (3, .int x3)] (v.toList ++ []) h' Q))) : zz_J zp_P zt_tf zt_fd X (d + 1) zm_143 200 [(0, .ref 49), (2, .int x2), (3, .int x3)] [] h Q := by
  refine zz_J.n 201 rfl rfl rfl ?_
  refine zz_J.n 202 rfl rfl rfl ?_
  refine zz_J.cv 205 (as := []) rfl rfl (hR.clO ko_49 (by decide) (by decide)) (by decide) (Nat.le_of_ble_eq_true rfl) (Nat.le_of_ble_eq_true rfl) rfl (Nat.le_of_ble_eq_true rfl) rfl ?_
  refine zz_J.mono (k hR) ?_
  intro o h' hE
  cases o with
  | inl v => exact zz_J.weak hE rfl ⟨rfl, rfl, rfl, trivial⟩
  | inr q => exact hE
theorem cb_143_205 {X : Nat → Option zz_C} {h : zz_H} {t : cS} {s : mS} {d : Nat} {Q : zz_O → zz_H → Prop} {x2 : Int32} {x3 : Int32} (hR : kR h t s) (k : ∀ {h : zz_H}, kR h t s → zz_J zp_P zt_tf zt_fd X d zm_126 0 [(0, .ref 42), (1, .int 3), (2, .int 0)] [] h (zz_after 2 Q (fun v h' => zz_J zp_P zt_tf zt_fd X (d + 1) zm_143 215 [(2, .int x2), (3, .int x3)] (v.toList ++ [.ref 49]) h' Q))) : zz_J zp_P zt_tf zt_fd X (d + 1) zm_143 205 [(0, .ref 49), (2, .int x2), (3, .int x3)] [] h Q := by
  refine zz_J.n 206 rfl rfl rfl ?_
  refine zz_J.n 207 rfl rfl rfl ?_
  refine zz_J.g 210 rfl (hR.gv (v := .ref 42) ko_49 (by decide) rfl) rfl ?_
  refine zz_J.c 211 (.int 3) rfl rfl rfl rfl ?_
  refine zz_J.c 212 (.int 0) rfl rfl rfl rfl ?_
  refine zz_J.cv 215 (as := [.ref 49]) rfl rfl (hR.clO ko_42 (by decide) (by decide)) (by decide) (Nat.le_of_ble_eq_true rfl) (Nat.le_of_ble_eq_true rfl) rfl (Nat.le_of_ble_eq_true rfl) rfl ?_
  refine zz_J.mono (k hR) ?_
  intro o h' hE
  cases o with
  | inl v => exact zz_J.weak hE rfl ⟨rfl, rfl, trivial⟩
  | inr q => exact hE
theorem cb_143_215 {X : Nat → Option zz_C} {h : zz_H} {t : cS} {s : mS} {d : Nat} {Q : zz_O → zz_H → Prop} {x2 : Int32} {x3 : Int32} {y1 : Int64} (hR : kR h t s) (k : ∀ {h : zz_H}, kR h t s → zz_J zp_P zt_tf zt_fd X d zm_144 0 [(0, .ref 49), (1, .long y1), (3, .int x2), (4, .int x3)] [] h (zz_after 3 Q (fun v h' => zz_J zp_P zt_tf zt_fd X (d + 1) zm_143 220 [] (v.toList ++ []) h' Q))) : zz_J zp_P zt_tf zt_fd X (d + 1) zm_143 215 [(2, .int x2), (3, .int x3)] [.long y1, .ref 49] h Q := by
  refine zz_J.n 216 rfl rfl rfl ?_
  refine zz_J.n 217 rfl rfl rfl ?_
  refine zz_J.cv 220 (as := []) rfl rfl (hR.clO ko_49 (by decide) (by decide)) (by decide) (Nat.le_of_ble_eq_true rfl) (Nat.le_of_ble_eq_true rfl) rfl (Nat.le_of_ble_eq_true rfl) rfl ?_
  refine zz_J.mono (k hR) ?_
  intro o h' hE
  cases o with
  | inl v => exact zz_J.weak hE rfl trivial
  | inr q => exact hE
theorem cb_143_220 {X : Nat → Option zz_C} {h : zz_H} {t : cS} {s : mS} {d : Nat} {Q : zz_O → zz_H → Prop}  (hR : kR h t s) (k : ∀ {h : zz_H}, kR h t s → zz_J zp_P zt_tf zt_fd X d zm_143 296 [] [] h Q) : zz_J zp_P zt_tf zt_fd X d zm_143 220 [] [] h Q := by
  refine zz_J.n 296 rfl rfl rfl ?_
  exact zz_J.weak (k hR) rfl trivial
theorem cb_143_223 {X : Nat → Option zz_C} {h : zz_H} {t : cS} {s : mS} {d : Nat} {Q : zz_O → zz_H → Prop} {x3 : Int32} {x4 : Int64} {x6 : Int64} (hR : kR h t s) (k : ∀ {h : zz_H}, kR h t s → zz_J zp_P zt_tf zt_fd X d zm_167 0 [(0, .ref 49), (1, .int 3)] [] h (zz_after 3 Q (fun v h' => zz_J zp_P zt_tf zt_fd X (d + 1) zm_143 235 [(3, .int x3), (6, .long x6)] (v.toList ++ [.long x4, .ref 58, .ref 49]) h' Q))) : zz_J zp_P zt_tf zt_fd X (d + 1) zm_143 223 [(0, .ref 49), (3, .int x3), (4, .long x4), (6, .long x6)] [] h Q := by
  refine zz_J.n 224 rfl rfl rfl ?_
  refine zz_J.n 225 rfl rfl rfl ?_
  refine zz_J.g 228 rfl (hR.gv (v := .ref 58) ko_49 (by decide) rfl) rfl ?_
  refine zz_J.n 230 rfl rfl rfl ?_
  refine zz_J.n 231 rfl rfl rfl ?_
  refine zz_J.c 232 (.int 3) rfl rfl rfl rfl ?_
  refine zz_J.cv 235 (as := [.long x4, .ref 58, .ref 49]) rfl rfl (hR.clO ko_49 (by decide) (by decide)) (by decide) (Nat.le_of_ble_eq_true rfl) (Nat.le_of_ble_eq_true rfl) rfl (Nat.le_of_ble_eq_true rfl) rfl ?_
  refine zz_J.mono (k hR) ?_
  intro o h' hE
  cases o with
  | inl v => exact zz_J.weak hE rfl ⟨rfl, rfl, trivial⟩
  | inr q => exact hE
theorem cb_143_235 {X : Nat → Option zz_C} {h : zz_H} {t : cS} {s : mS} {d : Nat} {Q : zz_O → zz_H → Prop} {x3 : Int32} {x6 : Int64} {y2 : Int64} {y3 : Int64} (hR : kR h t s) (k : ∀ {h : zz_H}, kR h t s → zz_J zp_P zt_tf zt_fd X d zm_224 0 [(0, .ref 58), (1, .long y2), (3, .long y3), (5, .long x6)] [] h (zz_after 8 Q (fun v h' => zz_J zp_P zt_tf zt_fd X (d + 1) zm_143 240 [(3, .int x3)] (v.toList ++ [.ref 49]) h' Q))) : zz_J zp_P zt_tf zt_fd X (d + 1) zm_143 235 [(3, .int x3), (6, .long x6)] [.long y3, .long y2, .ref 58, .ref 49] h Q := by
  refine zz_J.n 237 rfl rfl rfl ?_
  refine zz_J.cv 240 (as := [.ref 49]) rfl rfl (hR.clO ko_58 (by decide) (by decide)) (by decide) (Nat.le_of_ble_eq_true rfl) (Nat.le_of_ble_eq_true rfl) rfl (Nat.le_of_ble_eq_true rfl) rfl ?_
  refine zz_J.mono (k hR) ?_
  intro o h' hE
  cases o with
  | inl v => exact zz_J.weak hE rfl ⟨rfl, trivial⟩
  | inr q => exact hE
theorem cb_143_240 {X : Nat → Option zz_C} {h : zz_H} {t : cS} {s : mS} {d : Nat} {Q : zz_O → zz_H → Prop} {x3 : Int32} {y1 : Int64} (hR : kR h t s) (k : ∀ {h : zz_H}, kR h t s → zz_J zp_P zt_tf zt_fd X d zm_144 0 [(0, .ref 49), (1, .long y1), (3, .int 3), (4, .int x3)] [] h (zz_after 3 Q (fun v h' => zz_J zp_P zt_tf zt_fd X (d + 1) zm_143 245 [] (v.toList ++ []) h' Q))) : zz_J zp_P zt_tf zt_fd X (d + 1) zm_143 240 [(3, .int x3)] [.long y1, .ref 49] h Q := by
  refine zz_J.c 241 (.int 3) rfl rfl rfl rfl ?_
  refine zz_J.n 242 rfl rfl rfl ?_
  refine zz_J.cv 245 (as := []) rfl rfl (hR.clO ko_49 (by decide) (by decide)) (by decide) (Nat.le_of_ble_eq_true rfl) (Nat.le_of_ble_eq_true rfl) rfl (Nat.le_of_ble_eq_true rfl) rfl ?_
  refine zz_J.mono (k hR) ?_
  intro o h' hE
  cases o with
  | inl v => exact zz_J.weak hE rfl trivial
  | inr q => exact hE
theorem cb_143_245 {X : Nat → Option zz_C} {h : zz_H} {t : cS} {s : mS} {d : Nat} {Q : zz_O → zz_H → Prop}  (hR : kR h t s) (k : ∀ {h : zz_H}, kR h t s → zz_J zp_P zt_tf zt_fd X d zm_143 296 [] [] h Q) : zz_J zp_P zt_tf zt_fd X d zm_143 245 [] [] h Q := by
  refine zz_J.n 296 rfl rfl rfl ?_
  exact zz_J.weak (k hR) rfl trivial
theorem cb_143_248 {X : Nat → Option zz_C} {h : zz_H} {t : cS} {s : mS} {d : Nat} {Q : zz_O → zz_H → Prop} {x2 : Int32} {x3 : Int32} (hR : kR h t s) (k : ∀ {h : zz_H}, kR h t s → zz_J zp_P zt_tf zt_fd X d zm_159 0 [(0, .ref 49), (1, .int x3), (2, .int x2)] [] h (zz_after 3 Q (fun v h' => zz_J zp_P zt_tf zt_fd X (d + 1) zm_143 254 [] (v.toList ++ []) h' Q))) : zz_J zp_P zt_tf zt_fd X (d + 1) zm_143 248 [(0, .ref 49), (2, .int x2), (3, .int x3)] [] h Q := by
  refine zz_J.n 249 rfl rfl rfl ?_
  refine zz_J.n 250 rfl rfl rfl ?_
  refine zz_J.n 251 rfl rfl rfl ?_
  refine zz_J.cv 254 (as := []) rfl rfl (hR.clO ko_49 (by decide) (by decide)) (by decide) (Nat.le_of_ble_eq_true rfl) (Nat.le_of_ble_eq_true rfl) rfl (Nat.le_of_ble_eq_true rfl) rfl ?_
  refine zz_J.mono (k hR) ?_
  intro o h' hE
  cases o with
  | inl v => exact zz_J.weak hE rfl trivial
  | inr q => exact hE
theorem cb_143_254 {X : Nat → Option zz_C} {h : zz_H} {t : cS} {s : mS} {d : Nat} {Q : zz_O → zz_H → Prop}  (hR : kR h t s) (k : ∀ {h : zz_H}, kR h t s → zz_J zp_P zt_tf zt_fd X d zm_143 296 [] [] h Q) : zz_J zp_P zt_tf zt_fd X d zm_143 254 [] [] h Q := by
  refine zz_J.n 296 rfl rfl rfl ?_
  exact zz_J.weak (k hR) rfl trivial
theorem cb_143_257 {X : Nat → Option zz_C} {h : zz_H} {t : cS} {s : mS} {d : Nat} {Q : zz_O → zz_H → Prop} {x3 : Int32} (hR : kR h t s) (k : ∀ {h : zz_H}, kR h t s → zz_J zp_P zt_tf zt_fd X d zm_160 0 [(0, .ref 49), (1, .int x3)] [] h (zz_after 3 Q (fun v h' => zz_J zp_P zt_tf zt_fd X (d + 1) zm_143 262 [] (v.toList ++ []) h' Q))) : zz_J zp_P zt_tf zt_fd X (d + 1) zm_143 257 [(0, .ref 49), (3, .int x3)] [] h Q := by
  refine zz_J.n 258 rfl rfl rfl ?_
  refine zz_J.n 259 rfl rfl rfl ?_
  refine zz_J.cv 262 (as := []) rfl rfl (hR.clO ko_49 (by decide) (by decide)) (by decide) (Nat.le_of_ble_eq_true rfl) (Nat.le_of_ble_eq_true rfl) rfl (Nat.le_of_ble_eq_true rfl) rfl ?_
  refine zz_J.mono (k hR) ?_
  intro o h' hE
  cases o with
  | inl v => exact zz_J.weak hE rfl trivial
  | inr q => exact hE
theorem cb_143_262 {X : Nat → Option zz_C} {h : zz_H} {t : cS} {s : mS} {d : Nat} {Q : zz_O → zz_H → Prop}  (hR : kR h t s) (k : ∀ {h : zz_H}, kR h t s → zz_J zp_P zt_tf zt_fd X d zm_143 296 [] [] h Q) : zz_J zp_P zt_tf zt_fd X d zm_143 262 [] [] h Q := by
  refine zz_J.n 296 rfl rfl rfl ?_
  exact zz_J.weak (k hR) rfl trivial
theorem cb_143_265 {X : Nat → Option zz_C} {h : zz_H} {t : cS} {s : mS} {d : Nat} {Q : zz_O → zz_H → Prop} {x2 : Int32} {x3 : Int32} (hR : kR h t s) (k : ∀ {h : zz_H}, kR h t s → zz_J zp_P zt_tf zt_fd X d zm_161 0 [(0, .ref 49), (1, .int x2), (2, .int x3)] [] h (zz_after 3 Q (fun v h' => zz_J zp_P zt_tf zt_fd X (d + 1) zm_143 271 [] (v.toList ++ []) h' Q))) : zz_J zp_P zt_tf zt_fd X (d + 1) zm_143 265 [(0, .ref 49), (2, .int x2), (3, .int x3)] [] h Q := by
  refine zz_J.n 266 rfl rfl rfl ?_
  refine zz_J.n 267 rfl rfl rfl ?_
  refine zz_J.n 268 rfl rfl rfl ?_
  refine zz_J.cv 271 (as := []) rfl rfl (hR.clO ko_49 (by decide) (by decide)) (by decide) (Nat.le_of_ble_eq_true rfl) (Nat.le_of_ble_eq_true rfl) rfl (Nat.le_of_ble_eq_true rfl) rfl ?_
  refine zz_J.mono (k hR) ?_
  intro o h' hE
  cases o with
  | inl v => exact zz_J.weak hE rfl trivial
  | inr q => exact hE
theorem cb_143_271 {X : Nat → Option zz_C} {h : zz_H} {t : cS} {s : mS} {d : Nat} {Q : zz_O → zz_H → Prop}  (hR : kR h t s) (k : ∀ {h : zz_H}, kR h t s → zz_J zp_P zt_tf zt_fd X d zm_143 296 [] [] h Q) : zz_J zp_P zt_tf zt_fd X d zm_143 271 [] [] h Q := by
  refine zz_J.n 296 rfl rfl rfl ?_
  exact zz_J.weak (k hR) rfl trivial
theorem cb_143_274 {X : Nat → Option zz_C} {h : zz_H} {t : cS} {s : mS} {d : Nat} {Q : zz_O → zz_H → Prop} {x2 : Int32} {x3 : Int32} (hR : kR h t s) (k : ∀ {h : zz_H}, kR h t s → zz_J zp_P zt_tf zt_fd X d zm_163 0 [(0, .ref 49), (1, .int x2), (2, .int x3)] [] h (zz_after 3 Q (fun v h' => zz_J zp_P zt_tf zt_fd X (d + 1) zm_143 280 [] (v.toList ++ []) h' Q))) : zz_J zp_P zt_tf zt_fd X (d + 1) zm_143 274 [(0, .ref 49), (2, .int x2), (3, .int x3)] [] h Q := by
  refine zz_J.n 275 rfl rfl rfl ?_
  refine zz_J.n 276 rfl rfl rfl ?_
  refine zz_J.n 277 rfl rfl rfl ?_
  refine zz_J.cv 280 (as := []) rfl rfl (hR.clO ko_49 (by decide) (by decide)) (by decide) (Nat.le_of_ble_eq_true rfl) (Nat.le_of_ble_eq_true rfl) rfl (Nat.le_of_ble_eq_true rfl) rfl ?_
  refine zz_J.mono (k hR) ?_
  intro o h' hE
  cases o with
  | inl v => exact zz_J.weak hE rfl trivial
  | inr q => exact hE
theorem cb_143_280 {X : Nat → Option zz_C} {h : zz_H} {t : cS} {s : mS} {d : Nat} {Q : zz_O → zz_H → Prop}  (hR : kR h t s) (k : ∀ {h : zz_H}, kR h t s → zz_J zp_P zt_tf zt_fd X d zm_143 296 [] [] h Q) : zz_J zp_P zt_tf zt_fd X d zm_143 280 [] [] h Q := by
  refine zz_J.n 296 rfl rfl rfl ?_
  exact zz_J.weak (k hR) rfl trivial
theorem cb_143_283 {X : Nat → Option zz_C} {h : zz_H} {t : cS} {s : mS} {d : Nat} {Q : zz_O → zz_H → Prop} {x2 : Int32} (hR : kR h t s) (k : ∀ {h : zz_H}, kR h t s → zz_J zp_P zt_tf zt_fd X d zm_162 0 [(0, .ref 49), (1, .int x2)] [] h (zz_after 3 Q (fun v h' => zz_J zp_P zt_tf zt_fd X (d + 1) zm_143 288 [] (v.toList ++ []) h' Q))) : zz_J zp_P zt_tf zt_fd X (d + 1) zm_143 283 [(0, .ref 49), (2, .int x2)] [] h Q := by
  refine zz_J.n 284 rfl rfl rfl ?_
  refine zz_J.n 285 rfl rfl rfl ?_
  refine zz_J.cv 288 (as := []) rfl rfl (hR.clO ko_49 (by decide) (by decide)) (by decide) (Nat.le_of_ble_eq_true rfl) (Nat.le_of_ble_eq_true rfl) rfl (Nat.le_of_ble_eq_true rfl) rfl ?_
  refine zz_J.mono (k hR) ?_
  intro o h' hE
  cases o with
  | inl v => exact zz_J.weak hE rfl trivial
  | inr q => exact hE
theorem cb_143_288 {X : Nat → Option zz_C} {h : zz_H} {t : cS} {s : mS} {d : Nat} {Q : zz_O → zz_H → Prop}  (hR : kR h t s) (k : ∀ {h : zz_H}, kR h t s → zz_J zp_P zt_tf zt_fd X d zm_143 296 [] [] h Q) : zz_J zp_P zt_tf zt_fd X d zm_143 288 [] [] h Q := by
  refine zz_J.n 296 rfl rfl rfl ?_
  exact zz_J.weak (k hR) rfl trivial
theorem cb_143_291 {X : Nat → Option zz_C} {h : zz_H} {t : cS} {s : mS} {d : Nat} {Q : zz_O → zz_H → Prop} {x2 : Int32} (hR : kR h t s) (k : ∀ {h : zz_H}, kR h t s → zz_J zp_P zt_tf zt_fd X d zm_164 0 [(0, .ref 49), (1, .int x2)] [] h (zz_after 3 Q (fun v h' => zz_J zp_P zt_tf zt_fd X (d + 1) zm_143 296 [] (v.toList ++ []) h' Q))) : zz_J zp_P zt_tf zt_fd X (d + 1) zm_143 291 [(0, .ref 49), (2, .int x2)] [] h Q := by
  refine zz_J.n 292 rfl rfl rfl ?_
  refine zz_J.n 293 rfl rfl rfl ?_
  refine zz_J.cv 296 (as := []) rfl rfl (hR.clO ko_49 (by decide) (by decide)) (by decide) (Nat.le_of_ble_eq_true rfl) (Nat.le_of_ble_eq_true rfl) rfl (Nat.le_of_ble_eq_true rfl) rfl ?_
  refine zz_J.mono (k hR) ?_
  intro o h' hE
  cases o with
  | inl v => exact zz_J.weak hE rfl trivial
  | inr q => exact hE
theorem cb_143_296 {X : Nat → Option zz_C} {h : zz_H} {t : cS} {s : mS} {d : Nat} {Q : zz_O → zz_H → Prop}  (hR : kR h t s) (k : ∀ {h : zz_H}, kR h t s → Q (.inl none) h) : zz_J zp_P zt_tf zt_fd X d zm_143 296 [] [] h Q := by
  refine zz_J.ret rfl rfl rfl ?_
  exact k hR
def cf_143_296 (N : Nat) (X : Nat → Option zz_C)  (t : cS) : kO := some (t, .inl none)
theorem cr_143_296 {X : Nat → Option zz_C} {s : mS} {N : Nat} {d : Nat} (hd : 25 ≤ d) {Q : zz_O → zz_H → Prop}  {h : zz_H} {t t' : cS} {o : kY} (hR : kR h t s) (hf : cf_143_296 N X  t = some (t', o)) (k : (∀ h', kR h' t' s → kE o Q h')) : zz_J zp_P zt_tf zt_fd X d zm_143 296 [] [] h Q := by
  unfold cf_143_296 at hf
  cases hf
  exact cb_143_296 hR  (fun {h} hR => k h hR)
def cf_143_271 (N : Nat) (X : Nat → Option zz_C)  (t : cS) : kO := cf_143_296 N X  t
theorem cr_143_271 {X : Nat → Option zz_C} {s : mS} {N : Nat} {d : Nat} (hd : 25 ≤ d) {Q : zz_O → zz_H → Prop}  {h : zz_H} {t t' : cS} {o : kY} (hR : kR h t s) (hf : cf_143_271 N X  t = some (t', o)) (k : (∀ h', kR h' t' s → kE o Q h')) : zz_J zp_P zt_tf zt_fd X d zm_143 271 [] [] h Q := by
  unfold cf_143_271 at hf
  exact cb_143_271 hR  (fun hR => cr_143_296 hd hR hf k)
def cf_143_265 (N : Nat) (X : Nat → Option zz_C) (x2 : Int32) (x3 : Int32) (t : cS) : kO := ko_call 3 (cf_161 N X x2 x3 t) (fun g1 v1 => co_v v1 (cf_143_271 N X  g1))
theorem cr_143_265 {X : Nat → Option zz_C} {s : mS} {N : Nat} {d : Nat} (hd : 25 ≤ d) {Q : zz_O → zz_H → Prop} {x2 : Int32} {x3 : Int32} {h : zz_H} {t t' : cS} {o : kY} (hR : kR h t s) (hf : cf_143_265 N X x2 x3 t = some (t', o)) (k : (∀ h', kR h' t' s → kE o Q h')) : zz_J zp_P zt_tf zt_fd X d zm_143 265 [(0, .ref 49), (2, .int x2), (3, .int x3)] [] h Q := by
  unfold cf_143_265 at hf
  obtain ⟨d', rfl⟩ : ∃ d', d = d' + 1 := ⟨d - 1, by omega⟩
  refine cb_143_265 hR  (fun {h} hR => ?_)
  rcases ko_call_ok hf with ⟨g1, v1, er, hf⟩ | ⟨g1, er, hq⟩
  · obtain ⟨hv, hf2⟩ := co_v_ok hf
    clear hf
    have hf := hf2
    clear hf2
    subst hv
    refine cr_161 (by omega) hR er (fun h hR => ?_)
    exact cr_143_271 hd hR hf k
  · refine cr_161 (by omega) hR er (fun h hR => ?_)
    exact ko_thrown hq hR k
def cf_143_288 (N : Nat) (X : Nat → Option zz_C)  (t : cS) : kO := cf_143_296 N X  t
theorem cr_143_288 {X : Nat → Option zz_C} {s : mS} {N : Nat} {d : Nat} (hd : 25 ≤ d) {Q : zz_O → zz_H → Prop}  {h : zz_H} {t t' : cS} {o : kY} (hR : kR h t s) (hf : cf_143_288 N X  t = some (t', o)) (k : (∀ h', kR h' t' s → kE o Q h')) : zz_J zp_P zt_tf zt_fd X d zm_143 288 [] [] h Q := by
  unfold cf_143_288 at hf
  exact cb_143_288 hR  (fun hR => cr_143_296 hd hR hf k)
def cf_143_283 (N : Nat) (X : Nat → Option zz_C) (x2 : Int32) (t : cS) : kO := ko_call 3 (cf_162 N X x2 t) (fun g1 v1 => co_v v1 (cf_143_288 N X  g1))
theorem cr_143_283 {X : Nat → Option zz_C} {s : mS} {N : Nat} {d : Nat} (hd : 25 ≤ d) {Q : zz_O → zz_H → Prop} {x2 : Int32} {h : zz_H} {t t' : cS} {o : kY} (hR : kR h t s) (hf : cf_143_283 N X x2 t = some (t', o)) (k : (∀ h', kR h' t' s → kE o Q h')) : zz_J zp_P zt_tf zt_fd X d zm_143 283 [(0, .ref 49), (2, .int x2)] [] h Q := by
  unfold cf_143_283 at hf
  obtain ⟨d', rfl⟩ : ∃ d', d = d' + 1 := ⟨d - 1, by omega⟩
  refine cb_143_283 hR  (fun {h} hR => ?_)
  rcases ko_call_ok hf with ⟨g1, v1, er, hf⟩ | ⟨g1, er, hq⟩
  · obtain ⟨hv, hf2⟩ := co_v_ok hf
    clear hf
    have hf := hf2
    clear hf2
    subst hv
    refine cr_162 (by omega) hR er (fun h hR => ?_)
    exact cr_143_288 hd hR hf k
  · refine cr_162 (by omega) hR er (fun h hR => ?_)
    exact ko_thrown hq hR k
def cf_143_280 (N : Nat) (X : Nat → Option zz_C)  (t : cS) : kO := cf_143_296 N X  t
theorem cr_143_280 {X : Nat → Option zz_C} {s : mS} {N : Nat} {d : Nat} (hd : 25 ≤ d) {Q : zz_O → zz_H → Prop}  {h : zz_H} {t t' : cS} {o : kY} (hR : kR h t s) (hf : cf_143_280 N X  t = some (t', o)) (k : (∀ h', kR h' t' s → kE o Q h')) : zz_J zp_P zt_tf zt_fd X d zm_143 280 [] [] h Q := by
  unfold cf_143_280 at hf
  exact cb_143_280 hR  (fun hR => cr_143_296 hd hR hf k)
def cf_143_274 (N : Nat) (X : Nat → Option zz_C) (x2 : Int32) (x3 : Int32) (t : cS) : kO := ko_call 3 (cf_163 N X x2 x3 t) (fun g1 v1 => co_v v1 (cf_143_280 N X  g1))
theorem cr_143_274 {X : Nat → Option zz_C} {s : mS} {N : Nat} {d : Nat} (hd : 25 ≤ d) {Q : zz_O → zz_H → Prop} {x2 : Int32} {x3 : Int32} {h : zz_H} {t t' : cS} {o : kY} (hR : kR h t s) (hf : cf_143_274 N X x2 x3 t = some (t', o)) (k : (∀ h', kR h' t' s → kE o Q h')) : zz_J zp_P zt_tf zt_fd X d zm_143 274 [(0, .ref 49), (2, .int x2), (3, .int x3)] [] h Q := by
  unfold cf_143_274 at hf
  obtain ⟨d', rfl⟩ : ∃ d', d = d' + 1 := ⟨d - 1, by omega⟩
  refine cb_143_274 hR  (fun {h} hR => ?_)
  rcases ko_call_ok hf with ⟨g1, v1, er, hf⟩ | ⟨g1, er, hq⟩
  · obtain ⟨hv, hf2⟩ := co_v_ok hf
    clear hf
    have hf := hf2
    clear hf2
    subst hv
    refine cr_163 (by omega) hR er (fun h hR => ?_)
    exact cr_143_280 hd hR hf k
  · refine cr_163 (by omega) hR er (fun h hR => ?_)
    exact ko_thrown hq hR k
def cf_143_291 (N : Nat) (X : Nat → Option zz_C) (x2 : Int32) (t : cS) : kO := ko_call 3 (cf_164 N X x2 t) (fun g1 v1 => co_v v1 (cf_143_296 N X  g1))
theorem cr_143_291 {X : Nat → Option zz_C} {s : mS} {N : Nat} {d : Nat} (hd : 25 ≤ d) {Q : zz_O → zz_H → Prop} {x2 : Int32} {h : zz_H} {t t' : cS} {o : kY} (hR : kR h t s) (hf : cf_143_291 N X x2 t = some (t', o)) (k : (∀ h', kR h' t' s → kE o Q h')) : zz_J zp_P zt_tf zt_fd X d zm_143 291 [(0, .ref 49), (2, .int x2)] [] h Q := by
  unfold cf_143_291 at hf
  obtain ⟨d', rfl⟩ : ∃ d', d = d' + 1 := ⟨d - 1, by omega⟩
  refine cb_143_291 hR  (fun {h} hR => ?_)
  rcases ko_call_ok hf with ⟨g1, v1, er, hf⟩ | ⟨g1, er, hq⟩
  · obtain ⟨hv, hf2⟩ := co_v_ok hf
    clear hf
    have hf := hf2
    clear hf2
    subst hv
    refine cr_164 (by omega) hR er (fun h hR => ?_)
    exact cr_143_296 hd hR hf k
  · refine cr_164 (by omega) hR er (fun h hR => ?_)
    exact ko_thrown hq hR k
def cf_143_245 (N : Nat) (X : Nat → Option zz_C)  (t : cS) : kO := cf_143_296 N X  t
theorem cr_143_245 {X : Nat → Option zz_C} {s : mS} {N : Nat} {d : Nat} (hd : 25 ≤ d) {Q : zz_O → zz_H → Prop}  {h : zz_H} {t t' : cS} {o : kY} (hR : kR h t s) (hf : cf_143_245 N X  t = some (t', o)) (k : (∀ h', kR h' t' s → kE o Q h')) : zz_J zp_P zt_tf zt_fd X d zm_143 245 [] [] h Q := by
  unfold cf_143_245 at hf
  exact cb_143_245 hR  (fun hR => cr_143_296 hd hR hf k)
def cf_143_240 (N : Nat) (X : Nat → Option zz_C) (x3 : Int32) (y1 : Int64) (t : cS) : kO := ko_call 3 (cf_144 N X y1 3 x3 t) (fun g1 v1 => co_v v1 (cf_143_245 N X  g1))
theorem cr_143_240 {X : Nat → Option zz_C} {s : mS} {N : Nat} {d : Nat} (hd : 25 ≤ d) {Q : zz_O → zz_H → Prop} {x3 : Int32} {y1 : Int64} {h : zz_H} {t t' : cS} {o : kY} (hR : kR h t s) (hf : cf_143_240 N X x3 y1 t = some (t', o)) (k : (∀ h', kR h' t' s → kE o Q h')) : zz_J zp_P zt_tf zt_fd X d zm_143 240 [(3, .int x3)] [.long y1, .ref 49] h Q := by
  unfold cf_143_240 at hf
  obtain ⟨d', rfl⟩ : ∃ d', d = d' + 1 := ⟨d - 1, by omega⟩
  refine cb_143_240 hR  (fun {h} hR => ?_)
  rcases ko_call_ok hf with ⟨g1, v1, er, hf⟩ | ⟨g1, er, hq⟩
  · obtain ⟨hv, hf2⟩ := co_v_ok hf
    clear hf
    have hf := hf2
    clear hf2
    subst hv
    refine cr_144 (by omega) hR er (fun h hR => ?_)
    exact cr_143_245 hd hR hf k
  · refine cr_144 (by omega) hR er (fun h hR => ?_)
    exact ko_thrown hq hR k
def cf_143_235 (N : Nat) (X : Nat → Option zz_C) (x3 : Int32) (x6 : Int64) (y2 : Int64) (y3 : Int64) (t : cS) : kO := ko_call 8 (cf_224 N X y2 y3 x6 t) (fun g1 v1 => co_l v1 (fun y => cf_143_240 N X x3 y g1))
theorem cr_143_235 {X : Nat → Option zz_C} {s : mS} {N : Nat} {d : Nat} (hd : 25 ≤ d) {Q : zz_O → zz_H → Prop} {x3 : Int32} {x6 : Int64} {y2 : Int64} {y3 : Int64} {h : zz_H} {t t' : cS} {o : kY} (hR : kR h t s) (hf : cf_143_235 N X x3 x6 y2 y3 t = some (t', o)) (k : (∀ h', kR h' t' s → kE o Q h')) : zz_J zp_P zt_tf zt_fd X d zm_143 235 [(3, .int x3), (6, .long x6)] [.long y3, .long y2, .ref 58, .ref 49] h Q := by
  unfold cf_143_235 at hf
  obtain ⟨d', rfl⟩ : ∃ d', d = d' + 1 := ⟨d - 1, by omega⟩
  refine cb_143_235 hR  (fun {h} hR => ?_)
  rcases ko_call_ok hf with ⟨g1, v1, er, hf⟩ | ⟨g1, er, hq⟩
  · obtain ⟨y, hv, hf2⟩ := co_l_ok hf
    clear hf
    have hf := hf2
    clear hf2
    subst hv
    refine cr_224 (by omega) hR er (fun h hR => ?_)
    exact cr_143_240 hd hR hf k
  · refine cr_224 (by omega) hR er (fun h hR => ?_)
    exact ko_thrown hq hR k
def cf_143_223 (N : Nat) (X : Nat → Option zz_C) (x3 : Int32) (x4 : Int64) (x6 : Int64) (t : cS) : kO := ko_call 3 (cf_167 N X 3 t) (fun g1 v1 => co_l v1 (fun y => cf_143_235 N X x3 x6 x4 y g1))
theorem cr_143_223 {X : Nat → Option zz_C} {s : mS} {N : Nat} {d : Nat} (hd : 25 ≤ d) {Q : zz_O → zz_H → Prop} {x3 : Int32} {x4 : Int64} {x6 : Int64} {h : zz_H} {t t' : cS} {o : kY} (hR : kR h t s) (hf : cf_143_223 N X x3 x4 x6 t = some (t', o)) (k : (∀ h', kR h' t' s → kE o Q h')) : zz_J zp_P zt_tf zt_fd X d zm_143 223 [(0, .ref 49), (3, .int x3), (4, .long x4), (6, .long x6)] [] h Q := by
  unfold cf_143_223 at hf
  obtain ⟨d', rfl⟩ : ∃ d', d = d' + 1 := ⟨d - 1, by omega⟩
  refine cb_143_223 hR  (fun {h} hR => ?_)
  rcases ko_call_ok hf with ⟨g1, v1, er, hf⟩ | ⟨g1, er, hq⟩
  · obtain ⟨y, hv, hf2⟩ := co_l_ok hf
    clear hf
    have hf := hf2
    clear hf2
    subst hv
    refine cr_167 (by omega) hR er (fun h hR => ?_)
    exact cr_143_235 hd hR hf k
  · refine cr_167 (by omega) hR er (fun h hR => ?_)
    exact ko_thrown hq hR k
def cf_143_254 (N : Nat) (X : Nat → Option zz_C)  (t : cS) : kO := cf_143_296 N X  t
theorem cr_143_254 {X : Nat → Option zz_C} {s : mS} {N : Nat} {d : Nat} (hd : 25 ≤ d) {Q : zz_O → zz_H → Prop}  {h : zz_H} {t t' : cS} {o : kY} (hR : kR h t s) (hf : cf_143_254 N X  t = some (t', o)) (k : (∀ h', kR h' t' s → kE o Q h')) : zz_J zp_P zt_tf zt_fd X d zm_143 254 [] [] h Q := by
  unfold cf_143_254 at hf
  exact cb_143_254 hR  (fun hR => cr_143_296 hd hR hf k)
def cf_143_248 (N : Nat) (X : Nat → Option zz_C) (x2 : Int32) (x3 : Int32) (t : cS) : kO := ko_call 3 (cf_159 N X x3 x2 t) (fun g1 v1 => co_v v1 (cf_143_254 N X  g1))
theorem cr_143_248 {X : Nat → Option zz_C} {s : mS} {N : Nat} {d : Nat} (hd : 25 ≤ d) {Q : zz_O → zz_H → Prop} {x2 : Int32} {x3 : Int32} {h : zz_H} {t t' : cS} {o : kY} (hR : kR h t s) (hf : cf_143_248 N X x2 x3 t = some (t', o)) (k : (∀ h', kR h' t' s → kE o Q h')) : zz_J zp_P zt_tf zt_fd X d zm_143 248 [(0, .ref 49), (2, .int x2), (3, .int x3)] [] h Q := by
  unfold cf_143_248 at hf
  obtain ⟨d', rfl⟩ : ∃ d', d = d' + 1 := ⟨d - 1, by omega⟩
  refine cb_143_248 hR  (fun {h} hR => ?_)
  rcases ko_call_ok hf with ⟨g1, v1, er, hf⟩ | ⟨g1, er, hq⟩
  · obtain ⟨hv, hf2⟩ := co_v_ok hf
    clear hf
    have hf := hf2
    clear hf2
    subst hv
    refine cr_159 (by omega) hR er (fun h hR => ?_)
    exact cr_143_254 hd hR hf k
  · refine cr_159 (by omega) hR er (fun h hR => ?_)
    exact ko_thrown hq hR k
def cf_143_106 (N : Nat) (X : Nat → Option zz_C)  (t : cS) : kO := cf_143_296 N X  t
theorem cr_143_106 {X : Nat → Option zz_C} {s : mS} {N : Nat} {d : Nat} (hd : 25 ≤ d) {Q : zz_O → zz_H → Prop}  {h : zz_H} {t t' : cS} {o : kY} (hR : kR h t s) (hf : cf_143_106 N X  t = some (t', o)) (k : (∀ h', kR h' t' s → kE o Q h')) : zz_J zp_P zt_tf zt_fd X d zm_143 106 [] [] h Q := by
  unfold cf_143_106 at hf
  exact cb_143_106 hR  (fun hR => cr_143_296 hd hR hf k)
def cf_143_101 (N : Nat) (X : Nat → Option zz_C) (x3 : Int32) (y1 : Int64) (t : cS) : kO := ko_call 3 (cf_144 N X y1 2 x3 t) (fun g1 v1 => co_v v1 (cf_143_106 N X  g1))
theorem cr_143_101 {X : Nat → Option zz_C} {s : mS} {N : Nat} {d : Nat} (hd : 25 ≤ d) {Q : zz_O → zz_H → Prop} {x3 : Int32} {y1 : Int64} {h : zz_H} {t t' : cS} {o : kY} (hR : kR h t s) (hf : cf_143_101 N X x3 y1 t = some (t', o)) (k : (∀ h', kR h' t' s → kE o Q h')) : zz_J zp_P zt_tf zt_fd X d zm_143 101 [(3, .int x3)] [.long y1, .ref 49] h Q := by
  unfold cf_143_101 at hf
  obtain ⟨d', rfl⟩ : ∃ d', d = d' + 1 := ⟨d - 1, by omega⟩
  refine cb_143_101 hR  (fun {h} hR => ?_)
  rcases ko_call_ok hf with ⟨g1, v1, er, hf⟩ | ⟨g1, er, hq⟩
  · obtain ⟨hv, hf2⟩ := co_v_ok hf
    clear hf
    have hf := hf2
    clear hf2
    subst hv
    refine cr_144 (by omega) hR er (fun h hR => ?_)
    exact cr_143_106 hd hR hf k
  · refine cr_144 (by omega) hR er (fun h hR => ?_)
    exact ko_thrown hq hR k
def cf_143_88 (N : Nat) (X : Nat → Option zz_C) (x2 : Int32) (x3 : Int32) (x4 : Int64) (x6 : Int64) (t : cS) : kO := ko_call 8 (cf_222 N X x2 x6 x4 t) (fun g1 v1 => co_l v1 (fun y => cf_143_101 N X x3 y g1))
theorem cr_143_88 {X : Nat → Option zz_C} {s : mS} {N : Nat} {d : Nat} (hd : 25 ≤ d) {Q : zz_O → zz_H → Prop} {x2 : Int32} {x3 : Int32} {x4 : Int64} {x6 : Int64} {h : zz_H} {t t' : cS} {o : kY} (hR : kR h t s) (hf : cf_143_88 N X x2 x3 x4 x6 t = some (t', o)) (k : (∀ h', kR h' t' s → kE o Q h')) : zz_J zp_P zt_tf zt_fd X d zm_143 88 [(0, .ref 49), (2, .int x2), (3, .int x3), (4, .long x4), (6, .long x6)] [] h Q := by
  unfold cf_143_88 at hf
  obtain ⟨d', rfl⟩ : ∃ d', d = d' + 1 := ⟨d - 1, by omega⟩
  refine cb_143_88 hR  (fun {h} hR => ?_)
  rcases ko_call_ok hf with ⟨g1, v1, er, hf⟩ | ⟨g1, er, hq⟩
  · obtain ⟨y, hv, hf2⟩ := co_l_ok hf
    clear hf
    have hf := hf2
    clear hf2
    subst hv
    refine cr_222 (by omega) hR er (fun h hR => ?_)
    exact cr_143_101 hd hR hf k
  · refine cr_222 (by omega) hR er (fun h hR => ?_)
    exact ko_thrown hq hR k
def cf_143_197 (N : Nat) (X : Nat → Option zz_C)  (t : cS) : kO := cf_143_296 N X  t
theorem cr_143_197 {X : Nat → Option zz_C} {s : mS} {N : Nat} {d : Nat} (hd : 25 ≤ d) {Q : zz_O → zz_H → Prop}  {h : zz_H} {t t' : cS} {o : kY} (hR : kR h t s) (hf : cf_143_197 N X  t = some (t', o)) (k : (∀ h', kR h' t' s → kE o Q h')) : zz_J zp_P zt_tf zt_fd X d zm_143 197 [] [] h Q := by
  unfold cf_143_197 at hf
  exact cb_143_197 hR  (fun hR => cr_143_296 hd hR hf k)
def cf_143_192 (N : Nat) (X : Nat → Option zz_C) (x2 : Int32) (x3 : Int32) (y1 : Int64) (t : cS) : kO := ko_call 3 (cf_144 N X y1 x2 x3 t) (fun g1 v1 => co_v v1 (cf_143_197 N X  g1))
theorem cr_143_192 {X : Nat → Option zz_C} {s : mS} {N : Nat} {d : Nat} (hd : 25 ≤ d) {Q : zz_O → zz_H → Prop} {x2 : Int32} {x3 : Int32} {y1 : Int64} {h : zz_H} {t t' : cS} {o : kY} (hR : kR h t s) (hf : cf_143_192 N X x2 x3 y1 t = some (t', o)) (k : (∀ h', kR h' t' s → kE o Q h')) : zz_J zp_P zt_tf zt_fd X d zm_143 192 [(2, .int x2), (3, .int x3)] [.long y1, .ref 49] h Q := by
  unfold cf_143_192 at hf
  obtain ⟨d', rfl⟩ : ∃ d', d = d' + 1 := ⟨d - 1, by omega⟩
  refine cb_143_192 hR  (fun {h} hR => ?_)
  rcases ko_call_ok hf with ⟨g1, v1, er, hf⟩ | ⟨g1, er, hq⟩
  · obtain ⟨hv, hf2⟩ := co_v_ok hf
    clear hf
    have hf := hf2
    clear hf2
    subst hv
    refine cr_144 (by omega) hR er (fun h hR => ?_)
    exact cr_143_197 hd hR hf k
  · refine cr_144 (by omega) hR er (fun h hR => ?_)
    exact ko_thrown hq hR k
def cf_143_182 (N : Nat) (X : Nat → Option zz_C) (x2 : Int32) (x3 : Int32) (t : cS) : kO := ko_call 2 (cf_127 N X 1 0 t) (fun g1 v1 => co_l v1 (fun y => cf_143_192 N X x2 x3 y g1))
theorem cr_143_182 {X : Nat → Option zz_C} {s : mS} {N : Nat} {d : Nat} (hd : 25 ≤ d) {Q : zz_O → zz_H → Prop} {x2 : Int32} {x3 : Int32} {h : zz_H} {t t' : cS} {o : kY} (hR : kR h t s) (hf : cf_143_182 N X x2 x3 t = some (t', o)) (k : (∀ h', kR h' t' s → kE o Q h')) : zz_J zp_P zt_tf zt_fd X d zm_143 182 [(0, .ref 49), (2, .int x2), (3, .int x3)] [] h Q := by
  unfold cf_143_182 at hf
  obtain ⟨d', rfl⟩ : ∃ d', d = d' + 1 := ⟨d - 1, by omega⟩
  refine cb_143_182 hR  (fun {h} hR => ?_)
  rcases ko_call_ok hf with ⟨g1, v1, er, hf⟩ | ⟨g1, er, hq⟩
  · obtain ⟨y, hv, hf2⟩ := co_l_ok hf
    clear hf
    have hf := hf2
    clear hf2
    subst hv
    refine cr_127 (by omega) hR er (fun h hR => ?_)
    exact cr_143_192 hd hR hf k
  · refine cr_127 (by omega) hR er (fun h hR => ?_)
    exact ko_thrown hq hR k
def cf_143_177 (N : Nat) (X : Nat → Option zz_C) (x2 : Int32) (x3 : Int32) (t : cS) : kO := ko_call 3 (cf_145 N X x2 t) (fun g1 v1 => co_v v1 (cf_143_182 N X x2 x3 g1))
theorem cr_143_177 {X : Nat → Option zz_C} {s : mS} {N : Nat} {d : Nat} (hd : 25 ≤ d) {Q : zz_O → zz_H → Prop} {x2 : Int32} {x3 : Int32} {h : zz_H} {t t' : cS} {o : kY} (hR : kR h t s) (hf : cf_143_177 N X x2 x3 t = some (t', o)) (k : (∀ h', kR h' t' s → kE o Q h')) : zz_J zp_P zt_tf zt_fd X d zm_143 177 [(0, .ref 49), (2, .int x2), (3, .int x3)] [] h Q := by
  unfold cf_143_177 at hf
  obtain ⟨d', rfl⟩ : ∃ d', d = d' + 1 := ⟨d - 1, by omega⟩
  refine cb_143_177 hR  (fun {h} hR => ?_)
  rcases ko_call_ok hf with ⟨g1, v1, er, hf⟩ | ⟨g1, er, hq⟩
  · obtain ⟨hv, hf2⟩ := co_v_ok hf
    clear hf
    have hf := hf2
    clear hf2
    subst hv
    refine cr_145 (by omega) hR er (fun h hR => ?_)
    exact cr_143_182 hd hR hf k
  · refine cr_145 (by omega) hR er (fun h hR => ?_)
    exact ko_thrown hq hR k
def cf_143_126 (N : Nat) (X : Nat → Option zz_C)  (t : cS) : kO := cf_143_296 N X  t
theorem cr_143_126 {X : Nat → Option zz_C} {s : mS} {N : Nat} {d : Nat} (hd : 25 ≤ d) {Q : zz_O → zz_H → Prop}  {h : zz_H} {t t' : cS} {o : kY} (hR : kR h t s) (hf : cf_143_126 N X  t = some (t', o)) (k : (∀ h', kR h' t' s → kE o Q h')) : zz_J zp_P zt_tf zt_fd X d zm_143 126 [] [] h Q := by
  unfold cf_143_126 at hf
  exact cb_143_126 hR  (fun hR => cr_143_296 hd hR hf k)
def cf_143_121 (N : Nat) (X : Nat → Option zz_C) (x3 : Int32) (y1 : Int64) (t : cS) : kO := ko_call 3 (cf_144 N X y1 2 x3 t) (fun g1 v1 => co_v v1 (cf_143_126 N X  g1))
theorem cr_143_121 {X : Nat → Option zz_C} {s : mS} {N : Nat} {d : Nat} (hd : 25 ≤ d) {Q : zz_O → zz_H → Prop} {x3 : Int32} {y1 : Int64} {h : zz_H} {t t' : cS} {o : kY} (hR : kR h t s) (hf : cf_143_121 N X x3 y1 t = some (t', o)) (k : (∀ h', kR h' t' s → kE o Q h')) : zz_J zp_P zt_tf zt_fd X d zm_143 121 [(3, .int x3)] [.long y1, .ref 49] h Q := by
  unfold cf_143_121 at hf
  obtain ⟨d', rfl⟩ : ∃ d', d = d' + 1 := ⟨d - 1, by omega⟩
  refine cb_143_121 hR  (fun {h} hR => ?_)
  rcases ko_call_ok hf with ⟨g1, v1, er, hf⟩ | ⟨g1, er, hq⟩
  · obtain ⟨hv, hf2⟩ := co_v_ok hf
    clear hf
    have hf := hf2
    clear hf2
    subst hv
    refine cr_144 (by omega) hR er (fun h hR => ?_)
    exact cr_143_126 hd hR hf k
  · refine cr_144 (by omega) hR er (fun h hR => ?_)
    exact ko_thrown hq hR k
def cf_143_109 (N : Nat) (X : Nat → Option zz_C) (x3 : Int32) (x4 : Int64) (x6 : Int64) (t : cS) : kO := ko_call 8 (cf_223 N X x6 x4 t) (fun g1 v1 => co_l v1 (fun y => cf_143_121 N X x3 y g1))
theorem cr_143_109 {X : Nat → Option zz_C} {s : mS} {N : Nat} {d : Nat} (hd : 25 ≤ d) {Q : zz_O → zz_H → Prop} {x3 : Int32} {x4 : Int64} {x6 : Int64} {h : zz_H} {t t' : cS} {o : kY} (hR : kR h t s) (hf : cf_143_109 N X x3 x4 x6 t = some (t', o)) (k : (∀ h', kR h' t' s → kE o Q h')) : zz_J zp_P zt_tf zt_fd X d zm_143 109 [(0, .ref 49), (3, .int x3), (4, .long x4), (6, .long x6)] [] h Q := by
  unfold cf_143_109 at hf
  obtain ⟨d', rfl⟩ : ∃ d', d = d' + 1 := ⟨d - 1, by omega⟩
  refine cb_143_109 hR  (fun {h} hR => ?_)
  rcases ko_call_ok hf with ⟨g1, v1, er, hf⟩ | ⟨g1, er, hq⟩
  · obtain ⟨y, hv, hf2⟩ := co_l_ok hf
    clear hf
    have hf := hf2
    clear hf2
    subst hv
    refine cr_223 (by omega) hR er (fun h hR => ?_)
    exact cr_143_121 hd hR hf k
  · refine cr_223 (by omega) hR er (fun h hR => ?_)
    exact ko_thrown hq hR k
def cf_143_149 (N : Nat) (X : Nat → Option zz_C)  (t : cS) : kO := cf_143_296 N X  t
theorem cr_143_149 {X : Nat → Option zz_C} {s : mS} {N : Nat} {d : Nat} (hd : 25 ≤ d) {Q : zz_O → zz_H → Prop}  {h : zz_H} {t t' : cS} {o : kY} (hR : kR h t s) (hf : cf_143_149 N X  t = some (t', o)) (k : (∀ h', kR h' t' s → kE o Q h')) : zz_J zp_P zt_tf zt_fd X d zm_143 149 [] [] h Q := by
  unfold cf_143_149 at hf
  exact cb_143_149 hR  (fun hR => cr_143_296 hd hR hf k)
def cf_143_144 (N : Nat) (X : Nat → Option zz_C) (x3 : Int32) (y1 : Int64) (t : cS) : kO := ko_call 3 (cf_144 N X y1 1 x3 t) (fun g1 v1 => co_v v1 (cf_143_149 N X  g1))
theorem cr_143_144 {X : Nat → Option zz_C} {s : mS} {N : Nat} {d : Nat} (hd : 25 ≤ d) {Q : zz_O → zz_H → Prop} {x3 : Int32} {y1 : Int64} {h : zz_H} {t t' : cS} {o : kY} (hR : kR h t s) (hf : cf_143_144 N X x3 y1 t = some (t', o)) (k : (∀ h', kR h' t' s → kE o Q h')) : zz_J zp_P zt_tf zt_fd X d zm_143 144 [(3, .int x3)] [.long y1, .ref 49] h Q := by
  unfold cf_143_144 at hf
  obtain ⟨d', rfl⟩ : ∃ d', d = d' + 1 := ⟨d - 1, by omega⟩
  refine cb_143_144 hR  (fun {h} hR => ?_)
  rcases ko_call_ok hf with ⟨g1, v1, er, hf⟩ | ⟨g1, er, hq⟩
  · obtain ⟨hv, hf2⟩ := co_v_ok hf
    clear hf
    have hf := hf2
    clear hf2
    subst hv
    refine cr_144 (by omega) hR er (fun h hR => ?_)
    exact cr_143_149 hd hR hf k
  · refine cr_144 (by omega) hR er (fun h hR => ?_)
    exact ko_thrown hq hR k
def cf_143_139 (N : Nat) (X : Nat → Option zz_C) (x3 : Int32) (x4 : Int64) (y2 : Nat) (t : cS) : kO := ko_call 1 (cf_88 N X y2 x4 t) (fun g1 v1 => co_l v1 (fun y => cf_143_144 N X x3 y g1))
theorem cr_143_139 {X : Nat → Option zz_C} {s : mS} {N : Nat} {d : Nat} (hd : 25 ≤ d) {Q : zz_O → zz_H → Prop} {x3 : Int32} {x4 : Int64} {y2 : Nat} {h : zz_H} {t t' : cS} {o : kY} (hR : kR h t s) (hf : cf_143_139 N X x3 x4 y2 t = some (t', o)) (k : (∀ h', kR h' t' s → kE o Q h')) : zz_J zp_P zt_tf zt_fd X d zm_143 139 [(3, .int x3), (4, .long x4)] [.ref y2, .ref 59, .ref 49] h Q := by
  unfold cf_143_139 at hf
  obtain ⟨d', rfl⟩ : ∃ d', d = d' + 1 := ⟨d - 1, by omega⟩
  refine cb_143_139 hR  (fun {h} hR => ?_)
  rcases ko_call_ok hf with ⟨g1, v1, er, hf⟩ | ⟨g1, er, hq⟩
  · obtain ⟨y, hv, hf2⟩ := co_l_ok hf
    clear hf
    have hf := hf2
    clear hf2
    subst hv
    refine cr_88 (by omega) hR er (fun h hR => ?_)
    exact cr_143_144 hd hR hf k
  · refine cr_88 (by omega) hR er (fun h hR => ?_)
    exact ko_thrown hq hR k
def cf_143_129 (N : Nat) (X : Nat → Option zz_C) (x2 : Int32) (x3 : Int32) (x4 : Int64) (t : cS) : kO := ko_call 0 (cf_248 N X (Int32.toInt64 x2) t) (fun g1 v1 => co_r v1 (fun y => cf_143_139 N X x3 x4 y g1))
theorem cr_143_129 {X : Nat → Option zz_C} {s : mS} {N : Nat} {d : Nat} (hd : 25 ≤ d) {Q : zz_O → zz_H → Prop} {x2 : Int32} {x3 : Int32} {x4 : Int64} {h : zz_H} {t t' : cS} {o : kY} (hR : kR h t s) (hf : cf_143_129 N X x2 x3 x4 t = some (t', o)) (k : (∀ h', kR h' t' s → kE o Q h')) : zz_J zp_P zt_tf zt_fd X d zm_143 129 [(0, .ref 49), (2, .int x2), (3, .int x3), (4, .long x4)] [] h Q := by
  unfold cf_143_129 at hf
  obtain ⟨d', rfl⟩ : ∃ d', d = d' + 1 := ⟨d - 1, by omega⟩
  refine cb_143_129 hR  (fun {h} hR => ?_)
  rcases ko_call_ok hf with ⟨g1, v1, er, hf⟩ | ⟨g1, er, hq⟩
  · obtain ⟨y, hv, hf2⟩ := co_r_ok hf
    clear hf
    have hf := hf2
    clear hf2
    subst hv
    refine cr_248 (by omega) hR er (fun h hR => ?_)
    exact cr_143_139 hd hR hf k
  · refine cr_248 (by omega) hR er (fun h hR => ?_)
    exact ko_thrown hq hR k
def cf_143_174 (N : Nat) (X : Nat → Option zz_C)  (t : cS) : kO := cf_143_296 N X  t
theorem cr_143_174 {X : Nat → Option zz_C} {s : mS} {N : Nat} {d : Nat} (hd : 25 ≤ d) {Q : zz_O → zz_H → Prop}  {h : zz_H} {t t' : cS} {o : kY} (hR : kR h t s) (hf : cf_143_174 N X  t = some (t', o)) (k : (∀ h', kR h' t' s → kE o Q h')) : zz_J zp_P zt_tf zt_fd X d zm_143 174 [] [] h Q := by
  unfold cf_143_174 at hf
  exact cb_143_174 hR  (fun hR => cr_143_296 hd hR hf k)
def cf_143_169 (N : Nat) (X : Nat → Option zz_C) (x3 : Int32) (y1 : Int64) (t : cS) : kO := ko_call 3 (cf_144 N X y1 2 x3 t) (fun g1 v1 => co_v v1 (cf_143_174 N X  g1))
theorem cr_143_169 {X : Nat → Option zz_C} {s : mS} {N : Nat} {d : Nat} (hd : 25 ≤ d) {Q : zz_O → zz_H → Prop} {x3 : Int32} {y1 : Int64} {h : zz_H} {t t' : cS} {o : kY} (hR : kR h t s) (hf : cf_143_169 N X x3 y1 t = some (t', o)) (k : (∀ h', kR h' t' s → kE o Q h')) : zz_J zp_P zt_tf zt_fd X d zm_143 169 [(3, .int x3)] [.long y1, .ref 49] h Q := by
  unfold cf_143_169 at hf
  obtain ⟨d', rfl⟩ : ∃ d', d = d' + 1 := ⟨d - 1, by omega⟩
  refine cb_143_169 hR  (fun {h} hR => ?_)
  rcases ko_call_ok hf with ⟨g1, v1, er, hf⟩ | ⟨g1, er, hq⟩
  · obtain ⟨hv, hf2⟩ := co_v_ok hf
    clear hf
    have hf := hf2
    clear hf2
    subst hv
    refine cr_144 (by omega) hR er (fun h hR => ?_)
    exact cr_143_174 hd hR hf k
  · refine cr_144 (by omega) hR er (fun h hR => ?_)
    exact ko_thrown hq hR k
def cf_143_162 (N : Nat) (X : Nat → Option zz_C) (x3 : Int32) (x4 : Int64) (x6 : Int64) (y2 : Nat) (t : cS) : kO := ko_call 1 (cf_89 N X y2 x6 x4 t) (fun g1 v1 => co_l v1 (fun y => cf_143_169 N X x3 y g1))
theorem cr_143_162 {X : Nat → Option zz_C} {s : mS} {N : Nat} {d : Nat} (hd : 25 ≤ d) {Q : zz_O → zz_H → Prop} {x3 : Int32} {x4 : Int64} {x6 : Int64} {y2 : Nat} {h : zz_H} {t t' : cS} {o : kY} (hR : kR h t s) (hf : cf_143_162 N X x3 x4 x6 y2 t = some (t', o)) (k : (∀ h', kR h' t' s → kE o Q h')) : zz_J zp_P zt_tf zt_fd X d zm_143 162 [(3, .int x3), (4, .long x4), (6, .long x6)] [.ref y2, .ref 59, .ref 49] h Q := by
  unfold cf_143_162 at hf
  obtain ⟨d', rfl⟩ : ∃ d', d = d' + 1 := ⟨d - 1, by omega⟩
  refine cb_143_162 hR  (fun {h} hR => ?_)
  rcases ko_call_ok hf with ⟨g1, v1, er, hf⟩ | ⟨g1, er, hq⟩
  · obtain ⟨y, hv, hf2⟩ := co_l_ok hf
    clear hf
    have hf := hf2
    clear hf2
    subst hv
    refine cr_89 (by omega) hR er (fun h hR => ?_)
    exact cr_143_169 hd hR hf k
  · refine cr_89 (by omega) hR er (fun h hR => ?_)
    exact ko_thrown hq hR k
def cf_143_152 (N : Nat) (X : Nat → Option zz_C) (x2 : Int32) (x3 : Int32) (x4 : Int64) (x6 : Int64) (t : cS) : kO := ko_call 0 (cf_248 N X (Int32.toInt64 x2) t) (fun g1 v1 => co_r v1 (fun y => cf_143_162 N X x3 x4 x6 y g1))
theorem cr_143_152 {X : Nat → Option zz_C} {s : mS} {N : Nat} {d : Nat} (hd : 25 ≤ d) {Q : zz_O → zz_H → Prop} {x2 : Int32} {x3 : Int32} {x4 : Int64} {x6 : Int64} {h : zz_H} {t t' : cS} {o : kY} (hR : kR h t s) (hf : cf_143_152 N X x2 x3 x4 x6 t = some (t', o)) (k : (∀ h', kR h' t' s → kE o Q h')) : zz_J zp_P zt_tf zt_fd X d zm_143 152 [(0, .ref 49), (2, .int x2), (3, .int x3), (4, .long x4), (6, .long x6)] [] h Q := by
  unfold cf_143_152 at hf
  obtain ⟨d', rfl⟩ : ∃ d', d = d' + 1 := ⟨d - 1, by omega⟩
  refine cb_143_152 hR  (fun {h} hR => ?_)
  rcases ko_call_ok hf with ⟨g1, v1, er, hf⟩ | ⟨g1, er, hq⟩
  · obtain ⟨y, hv, hf2⟩ := co_r_ok hf
    clear hf
    have hf := hf2
    clear hf2
    subst hv
    refine cr_248 (by omega) hR er (fun h hR => ?_)
    exact cr_143_162 hd hR hf k
  · refine cr_248 (by omega) hR er (fun h hR => ?_)
    exact ko_thrown hq hR k
def cf_143_220 (N : Nat) (X : Nat → Option zz_C)  (t : cS) : kO := cf_143_296 N X  t
theorem cr_143_220 {X : Nat → Option zz_C} {s : mS} {N : Nat} {d : Nat} (hd : 25 ≤ d) {Q : zz_O → zz_H → Prop}  {h : zz_H} {t t' : cS} {o : kY} (hR : kR h t s) (hf : cf_143_220 N X  t = some (t', o)) (k : (∀ h', kR h' t' s → kE o Q h')) : zz_J zp_P zt_tf zt_fd X d zm_143 220 [] [] h Q := by
  unfold cf_143_220 at hf
  exact cb_143_220 hR  (fun hR => cr_143_296 hd hR hf k)
def cf_143_215 (N : Nat) (X : Nat → Option zz_C) (x2 : Int32) (x3 : Int32) (y1 : Int64) (t : cS) : kO := ko_call 3 (cf_144 N X y1 x2 x3 t) (fun g1 v1 => co_v v1 (cf_143_220 N X  g1))
theorem cr_143_215 {X : Nat → Option zz_C} {s : mS} {N : Nat} {d : Nat} (hd : 25 ≤ d) {Q : zz_O → zz_H → Prop} {x2 : Int32} {x3 : Int32} {y1 : Int64} {h : zz_H} {t t' : cS} {o : kY} (hR : kR h t s) (hf : cf_143_215 N X x2 x3 y1 t = some (t', o)) (k : (∀ h', kR h' t' s → kE o Q h')) : zz_J zp_P zt_tf zt_fd X d zm_143 215 [(2, .int x2), (3, .int x3)] [.long y1, .ref 49] h Q := by
  unfold cf_143_215 at hf
  obtain ⟨d', rfl⟩ : ∃ d', d = d' + 1 := ⟨d - 1, by omega⟩
  refine cb_143_215 hR  (fun {h} hR => ?_)
  rcases ko_call_ok hf with ⟨g1, v1, er, hf⟩ | ⟨g1, er, hq⟩
  · obtain ⟨hv, hf2⟩ := co_v_ok hf
    clear hf
    have hf := hf2
    clear hf2
    subst hv
    refine cr_144 (by omega) hR er (fun h hR => ?_)
    exact cr_143_220 hd hR hf k
  · refine cr_144 (by omega) hR er (fun h hR => ?_)
    exact ko_thrown hq hR k
def cf_143_205 (N : Nat) (X : Nat → Option zz_C) (x2 : Int32) (x3 : Int32) (t : cS) : kO := ko_call 2 (cf_126 N X 3 0 t) (fun g1 v1 => co_l v1 (fun y => cf_143_215 N X x2 x3 y g1))
theorem cr_143_205 {X : Nat → Option zz_C} {s : mS} {N : Nat} {d : Nat} (hd : 25 ≤ d) {Q : zz_O → zz_H → Prop} {x2 : Int32} {x3 : Int32} {h : zz_H} {t t' : cS} {o : kY} (hR : kR h t s) (hf : cf_143_205 N X x2 x3 t = some (t', o)) (k : (∀ h', kR h' t' s → kE o Q h')) : zz_J zp_P zt_tf zt_fd X d zm_143 205 [(0, .ref 49), (2, .int x2), (3, .int x3)] [] h Q := by
  unfold cf_143_205 at hf
  obtain ⟨d', rfl⟩ : ∃ d', d = d' + 1 := ⟨d - 1, by omega⟩
  refine cb_143_205 hR  (fun {h} hR => ?_)
  rcases ko_call_ok hf with ⟨g1, v1, er, hf⟩ | ⟨g1, er, hq⟩
  · obtain ⟨y, hv, hf2⟩ := co_l_ok hf
    clear hf
    have hf := hf2
    clear hf2
    subst hv
    refine cr_126 (by omega) hR er (fun h hR => ?_)
    exact cr_143_215 hd hR hf k
  · refine cr_126 (by omega) hR er (fun h hR => ?_)
    exact ko_thrown hq hR k
def cf_143_200 (N : Nat) (X : Nat → Option zz_C) (x2 : Int32) (x3 : Int32) (t : cS) : kO := ko_call 3 (cf_145 N X x2 t) (fun g1 v1 => co_v v1 (cf_143_205 N X x2 x3 g1))
theorem cr_143_200 {X : Nat → Option zz_C} {s : mS} {N : Nat} {d : Nat} (hd : 25 ≤ d) {Q : zz_O → zz_H → Prop} {x2 : Int32} {x3 : Int32} {h : zz_H} {t t' : cS} {o : kY} (hR : kR h t s) (hf : cf_143_200 N X x2 x3 t = some (t', o)) (k : (∀ h', kR h' t' s → kE o Q h')) : zz_J zp_P zt_tf zt_fd X d zm_143 200 [(0, .ref 49), (2, .int x2), (3, .int x3)] [] h Q := by
  unfold cf_143_200 at hf
  obtain ⟨d', rfl⟩ : ∃ d', d = d' + 1 := ⟨d - 1, by omega⟩
  refine cb_143_200 hR  (fun {h} hR => ?_)
  rcases ko_call_ok hf with ⟨g1, v1, er, hf⟩ | ⟨g1, er, hq⟩
  · obtain ⟨hv, hf2⟩ := co_v_ok hf
    clear hf
    have hf := hf2
    clear hf2
    subst hv
    refine cr_145 (by omega) hR er (fun h hR => ?_)
    exact cr_143_205 hd hR hf k
  · refine cr_145 (by omega) hR er (fun h hR => ?_)
    exact ko_thrown hq hR k
def cf_143_262 (N : Nat) (X : Nat → Option zz_C)  (t : cS) : kO := cf_143_296 N X  t
theorem cr_143_262 {X : Nat → Option zz_C} {s : mS} {N : Nat} {d : Nat} (hd : 25 ≤ d) {Q : zz_O → zz_H → Prop}  {h : zz_H} {t t' : cS} {o : kY} (hR : kR h t s) (hf : cf_143_262 N X  t = some (t', o)) (k : (∀ h', kR h' t' s → kE o Q h')) : zz_J zp_P zt_tf zt_fd X d zm_143 262 [] [] h Q := by
  unfold cf_143_262 at hf
  exact cb_143_262 hR  (fun hR => cr_143_296 hd hR hf k)
def cf_143_257 (N : Nat) (X : Nat → Option zz_C) (x3 : Int32) (t : cS) : kO := ko_call 3 (cf_160 N X x3 t) (fun g1 v1 => co_v v1 (cf_143_262 N X  g1))
theorem cr_143_257 {X : Nat → Option zz_C} {s : mS} {N : Nat} {d : Nat} (hd : 25 ≤ d) {Q : zz_O → zz_H → Prop} {x3 : Int32} {h : zz_H} {t t' : cS} {o : kY} (hR : kR h t s) (hf : cf_143_257 N X x3 t = some (t', o)) (k : (∀ h', kR h' t' s → kE o Q h')) : zz_J zp_P zt_tf zt_fd X d zm_143 257 [(0, .ref 49), (3, .int x3)] [] h Q := by
  unfold cf_143_257 at hf
  obtain ⟨d', rfl⟩ : ∃ d', d = d' + 1 := ⟨d - 1, by omega⟩
  refine cb_143_257 hR  (fun {h} hR => ?_)
  rcases ko_call_ok hf with ⟨g1, v1, er, hf⟩ | ⟨g1, er, hq⟩
  · obtain ⟨hv, hf2⟩ := co_v_ok hf
    clear hf
    have hf := hf2
    clear hf2
    subst hv
    refine cr_160 (by omega) hR er (fun h hR => ?_)
    exact cr_143_262 hd hR hf k
  · refine cr_160 (by omega) hR er (fun h hR => ?_)
    exact ko_thrown hq hR k
def cf_143_19 (N : Nat) (X : Nat → Option zz_C) (x1 : Int32) (x2 : Int32) (x3 : Int32) (x4 : Int64) (y0 : Int64) (t : cS) : kO := if (Int32.toInt x1 < 13 ∨ 25 < Int32.toInt x1) then cf_143_291 N X x2 t else if x1 = 13 then cf_143_265 N X x2 x3 t else if x1 = 14 then cf_143_283 N X x2 t else if x1 = 15 then cf_143_274 N X x2 x3 t else if x1 = 16 then cf_143_291 N X x2 t else if x1 = 17 then cf_143_223 N X x3 x4 y0 t else if x1 = 18 then cf_143_248 N X x2 x3 t else if x1 = 19 then cf_143_88 N X x2 x3 x4 y0 t else if x1 = 20 then cf_143_177 N X x2 x3 t else if x1 = 21 then cf_143_109 N X x3 x4 y0 t else if x1 = 22 then cf_143_129 N X x2 x3 x4 t else if x1 = 23 then cf_143_152 N X x2 x3 x4 y0 t else if x1 = 24 then cf_143_200 N X x2 x3 t else if x1 = 25 then cf_143_257 N X x3 t else none
theorem cr_143_19 {X : Nat → Option zz_C} {s : mS} {N : Nat} {d : Nat} (hd : 25 ≤ d) {Q : zz_O → zz_H → Prop} {x1 : Int32} {x2 : Int32} {x3 : Int32} {x4 : Int64} {y0 : Int64} {h : zz_H} {t t' : cS} {o : kY} (hR : kR h t s) (hf : cf_143_19 N X x1 x2 x3 x4 y0 t = some (t', o)) (k : (∀ h', kR h' t' s → kE o Q h')) : zz_J zp_P zt_tf zt_fd X d zm_143 19 [(0, .ref 49), (1, .int x1), (2, .int x2), (3, .int x3), (4, .long x4)] [.long y0] h Q := by
  unfold cf_143_19 at hf
  refine cb_143_19 hR  (fun c {h} hR => ?_) (fun c {h} hR => ?_) (fun c {h} hR => ?_) (fun c {h} hR => ?_) (fun c {h} hR => ?_) (fun c {h} hR => ?_) (fun c {h} hR => ?_) (fun c {h} hR => ?_) (fun c {h} hR => ?_) (fun c {h} hR => ?_) (fun c {h} hR => ?_) (fun c {h} hR => ?_) (fun c {h} hR => ?_) (fun c {h} hR => ?_)
  · rw [if_neg (by rw [c]; decide)] at hf
    rw [if_pos c] at hf
    exact cr_143_265 hd hR hf k
  · rw [if_neg (by rw [c]; decide)] at hf
    rw [if_neg (by rw [c]; decide)] at hf
    rw [if_pos c] at hf
    exact cr_143_283 hd hR hf k
  · rw [if_neg (by rw [c]; decide)] at hf
    rw [if_neg (by rw [c]; decide)] at hf
    rw [if_neg (by rw [c]; decide)] at hf
    rw [if_pos c] at hf
    exact cr_143_274 hd hR hf k
  · rw [if_neg (by rw [c]; decide)] at hf
    rw [if_neg (by rw [c]; decide)] at hf
    rw [if_neg (by rw [c]; decide)] at hf
    rw [if_neg (by rw [c]; decide)] at hf
    rw [if_pos c] at hf
    exact cr_143_291 hd hR hf k
  · rw [if_neg (by rw [c]; decide)] at hf
    rw [if_neg (by rw [c]; decide)] at hf
    rw [if_neg (by rw [c]; decide)] at hf
    rw [if_neg (by rw [c]; decide)] at hf
    rw [if_neg (by rw [c]; decide)] at hf
    rw [if_pos c] at hf
    exact cr_143_223 hd hR hf k
  · rw [if_neg (by rw [c]; decide)] at hf
    rw [if_neg (by rw [c]; decide)] at hf
    rw [if_neg (by rw [c]; decide)] at hf
    rw [if_neg (by rw [c]; decide)] at hf
    rw [if_neg (by rw [c]; decide)] at hf
    rw [if_neg (by rw [c]; decide)] at hf
    rw [if_pos c] at hf
    exact cr_143_248 hd hR hf k
  · rw [if_neg (by rw [c]; decide)] at hf
    rw [if_neg (by rw [c]; decide)] at hf
    rw [if_neg (by rw [c]; decide)] at hf
    rw [if_neg (by rw [c]; decide)] at hf
    rw [if_neg (by rw [c]; decide)] at hf
    rw [if_neg (by rw [c]; decide)] at hf
    rw [if_neg (by rw [c]; decide)] at hf
    rw [if_pos c] at hf
    exact cr_143_88 hd hR hf k
  · rw [if_neg (by rw [c]; decide)] at hf
    rw [if_neg (by rw [c]; decide)] at hf
    rw [if_neg (by rw [c]; decide)] at hf
    rw [if_neg (by rw [c]; decide)] at hf
    rw [if_neg (by rw [c]; decide)] at hf
    rw [if_neg (by rw [c]; decide)] at hf
    rw [if_neg (by rw [c]; decide)] at hf
    rw [if_neg (by rw [c]; decide)] at hf
    rw [if_pos c] at hf
    exact cr_143_177 hd hR hf k
  · rw [if_neg (by rw [c]; decide)] at hf
    rw [if_neg (by rw [c]; decide)] at hf
    rw [if_neg (by rw [c]; decide)] at hf
    rw [if_neg (by rw [c]; decide)] at hf
    rw [if_neg (by rw [c]; decide)] at hf
    rw [if_neg (by rw [c]; decide)] at hf
    rw [if_neg (by rw [c]; decide)] at hf
    rw [if_neg (by rw [c]; decide)] at hf
    rw [if_neg (by rw [c]; decide)] at hf
    rw [if_pos c] at hf
    exact cr_143_109 hd hR hf k
  · rw [if_neg (by rw [c]; decide)] at hf
    rw [if_neg (by rw [c]; decide)] at hf
    rw [if_neg (by rw [c]; decide)] at hf
    rw [if_neg (by rw [c]; decide)] at hf
    rw [if_neg (by rw [c]; decide)] at hf
    rw [if_neg (by rw [c]; decide)] at hf
    rw [if_neg (by rw [c]; decide)] at hf
    rw [if_neg (by rw [c]; decide)] at hf
    rw [if_neg (by rw [c]; decide)] at hf
    rw [if_neg (by rw [c]; decide)] at hf
    rw [if_pos c] at hf
    exact cr_143_129 hd hR hf k
  · rw [if_neg (by rw [c]; decide)] at hf
    rw [if_neg (by rw [c]; decide)] at hf
    rw [if_neg (by rw [c]; decide)] at hf
    rw [if_neg (by rw [c]; decide)] at hf
    rw [if_neg (by rw [c]; decide)] at hf
    rw [if_neg (by rw [c]; decide)] at hf
    rw [if_neg (by rw [c]; decide)] at hf
    rw [if_neg (by rw [c]; decide)] at hf
    rw [if_neg (by rw [c]; decide)] at hf
    rw [if_neg (by rw [c]; decide)] at hf
    rw [if_neg (by rw [c]; decide)] at hf
    rw [if_pos c] at hf
    exact cr_143_152 hd hR hf k
  · rw [if_neg (by rw [c]; decide)] at hf
    rw [if_neg (by rw [c]; decide)] at hf
    rw [if_neg (by rw [c]; decide)] at hf
    rw [if_neg (by rw [c]; decide)] at hf
    rw [if_neg (by rw [c]; decide)] at hf
    rw [if_neg (by rw [c]; decide)] at hf
    rw [if_neg (by rw [c]; decide)] at hf
    rw [if_neg (by rw [c]; decide)] at hf
    rw [if_neg (by rw [c]; decide)] at hf
    rw [if_neg (by rw [c]; decide)] at hf
    rw [if_neg (by rw [c]; decide)] at hf
    rw [if_neg (by rw [c]; decide)] at hf
    rw [if_pos c] at hf
    exact cr_143_200 hd hR hf k
  · rw [if_neg (by rw [c]; decide)] at hf
    rw [if_neg (by rw [c]; decide)] at hf
    rw [if_neg (by rw [c]; decide)] at hf
    rw [if_neg (by rw [c]; decide)] at hf
    rw [if_neg (by rw [c]; decide)] at hf
    rw [if_neg (by rw [c]; decide)] at hf
    rw [if_neg (by rw [c]; decide)] at hf
    rw [if_neg (by rw [c]; decide)] at hf
    rw [if_neg (by rw [c]; decide)] at hf
    rw [if_neg (by rw [c]; decide)] at hf
    rw [if_neg (by rw [c]; decide)] at hf
    rw [if_neg (by rw [c]; decide)] at hf
    rw [if_neg (by rw [c]; decide)] at hf
    rw [if_pos c] at hf
    exact cr_143_257 hd hR hf k
  · rw [if_pos c] at hf
    exact cr_143_291 hd hR hf k
def cf_143_12 (N : Nat) (X : Nat → Option zz_C) (x1 : Int32) (x2 : Int32) (x3 : Int32) (y0 : Int64) (t : cS) : kO := ko_call 3 (cf_167 N X 2 t) (fun g1 v1 => co_l v1 (fun y => cf_143_19 N X x1 x2 x3 y0 y g1))
theorem cr_143_12 {X : Nat → Option zz_C} {s : mS} {N : Nat} {d : Nat} (hd : 25 ≤ d) {Q : zz_O → zz_H → Prop} {x1 : Int32} {x2 : Int32} {x3 : Int32} {y0 : Int64} {h : zz_H} {t t' : cS} {o : kY} (hR : kR h t s) (hf : cf_143_12 N X x1 x2 x3 y0 t = some (t', o)) (k : (∀ h', kR h' t' s → kE o Q h')) : zz_J zp_P zt_tf zt_fd X d zm_143 12 [(0, .ref 49), (1, .int x1), (2, .int x2), (3, .int x3)] [.long y0] h Q := by
  unfold cf_143_12 at hf
  obtain ⟨d', rfl⟩ : ∃ d', d = d' + 1 := ⟨d - 1, by omega⟩
  refine cb_143_12 hR  (fun {h} hR => ?_)
  rcases ko_call_ok hf with ⟨g1, v1, er, hf⟩ | ⟨g1, er, hq⟩
  · obtain ⟨y, hv, hf2⟩ := co_l_ok hf
    clear hf
    have hf := hf2
    clear hf2
    subst hv
    refine cr_167 (by omega) hR er (fun h hR => ?_)
    exact cr_143_19 hd hR hf k
  · refine cr_167 (by omega) hR er (fun h hR => ?_)
    exact ko_thrown hq hR k
def cf_143_7 (N : Nat) (X : Nat → Option zz_C) (x1 : Int32) (x2 : Int32) (x3 : Int32) (t : cS) : kO := ko_call 3 (cf_167 N X 1 t) (fun g1 v1 => co_l v1 (fun y => cf_143_12 N X x1 x2 x3 y g1))
theorem cr_143_7 {X : Nat → Option zz_C} {s : mS} {N : Nat} {d : Nat} (hd : 25 ≤ d) {Q : zz_O → zz_H → Prop} {x1 : Int32} {x2 : Int32} {x3 : Int32} {h : zz_H} {t t' : cS} {o : kY} (hR : kR h t s) (hf : cf_143_7 N X x1 x2 x3 t = some (t', o)) (k : (∀ h', kR h' t' s → kE o Q h')) : zz_J zp_P zt_tf zt_fd X d zm_143 7 [(0, .ref 49), (1, .int x1), (2, .int x2), (3, .int x3)] [] h Q := by
  unfold cf_143_7 at hf
  obtain ⟨d', rfl⟩ : ∃ d', d = d' + 1 := ⟨d - 1, by omega⟩
  refine cb_143_7 hR  (fun {h} hR => ?_)
  rcases ko_call_ok hf with ⟨g1, v1, er, hf⟩ | ⟨g1, er, hq⟩
  · obtain ⟨y, hv, hf2⟩ := co_l_ok hf
    clear hf
    have hf := hf2
    clear hf2
    subst hv
    refine cr_167 (by omega) hR er (fun h hR => ?_)
    exact cr_143_12 hd hR hf k
  · refine cr_167 (by omega) hR er (fun h hR => ?_)
    exact ko_thrown hq hR k
def cf_143_0 (N : Nat) (X : Nat → Option zz_C) (x1 : Int32) (x2 : Int32) (x3 : Int32) (t : cS) : kO := ko_call 2 (cf_121 N X  t) (fun g1 v1 => co_v v1 (cf_143_7 N X x1 x2 x3 g1))
theorem cr_143_0 {X : Nat → Option zz_C} {s : mS} {N : Nat} {d : Nat} (hd : 25 ≤ d) {Q : zz_O → zz_H → Prop} {x1 : Int32} {x2 : Int32} {x3 : Int32} {h : zz_H} {t t' : cS} {o : kY} (hR : kR h t s) (hf : cf_143_0 N X x1 x2 x3 t = some (t', o)) (k : (∀ h', kR h' t' s → kE o Q h')) : zz_J zp_P zt_tf zt_fd X d zm_143 0 [(0, .ref 49), (1, .int x1), (2, .int x2), (3, .int x3)] [] h Q := by
  unfold cf_143_0 at hf
  obtain ⟨d', rfl⟩ : ∃ d', d = d' + 1 := ⟨d - 1, by omega⟩
  refine cb_143_0 hR  (fun {h} hR => ?_)
  rcases ko_call_ok hf with ⟨g1, v1, er, hf⟩ | ⟨g1, er, hq⟩
  · obtain ⟨hv, hf2⟩ := co_v_ok hf
    clear hf
    have hf := hf2
    clear hf2
    subst hv
    refine cr_121 (by omega) hR er (fun h hR => ?_)
    exact cr_143_7 hd hR hf k
  · refine cr_121 (by omega) hR er (fun h hR => ?_)
    exact ko_thrown hq hR k
/-- work -/
def cf_143 (N : Nat) (X : Nat → Option zz_C) (x1 : Int32) (x2 : Int32) (x3 : Int32) (t : cS) : kO := cf_143_0 N X x1 x2 x3 t
theorem cr_143 {X : Nat → Option zz_C} {s : mS} {N : Nat} {d : Nat} (hd : 25 ≤ d) {Q : zz_O → zz_H → Prop} {x1 : Int32} {x2 : Int32} {x3 : Int32} {h : zz_H} {t t' : cS} {o : kY} (hR : kR h t s) (hf : cf_143 N X x1 x2 x3 t = some (t', o)) (k : ∀ h', kR h' t' s → kE o Q h') : zz_J zp_P zt_tf zt_fd X d zm_143 0 [(0, .ref 49), (1, .int x1), (2, .int x2), (3, .int x3)] [] h Q := by
  unfold cf_143 at hf
  exact zz_J.weak (cr_143_0 hd hR hf k) rfl ⟨rfl, rfl, rfl, rfl, trivial⟩
/-! yX6_actAt (I)I -/
theorem cb_211_0 {X : Nat → Option zz_C} {h : zz_H} {t : cS} {s : mS} {d : Nat} {Q : zz_O → zz_H → Prop} {x0 : Nat} {x1 : Int32} (hR : kR h t s) (k1 : x1 < 0 → (∀ {h : zz_H}, kR h t s → zz_J zp_P zt_tf zt_fd X d zm_211 21 [] [] h Q)) (k2 : ¬ x1 < 0 → (∀ {h : zz_H}, kR h t s → zz_J zp_P zt_tf zt_fd X d zm_211 4 [(0, .ref x0), (1, .int x1)] [] h Q)) : zz_J zp_P zt_tf zt_fd X d zm_211 0 [(0, .ref x0), (1, .int x1)] [] h Q := by
  refine zz_J.n 1 rfl rfl rfl ?_
  refine zz_J.b1 21 4 (A := x1 < 0) rfl rfl (by decide) rfl rfl (fun c => ?_) (fun c => ?_)
  · exact zz_J.weak (k1 c hR) rfl trivial
  · exact zz_J.weak (k2 c hR) rfl ⟨rfl, rfl, trivial⟩
theorem cb_211_4 {X : Nat → Option zz_C} {h : zz_H} {t : cS} {s : mS} {d : Nat} {Q : zz_O → zz_H → Prop} {x0 : Nat} {x1 : Int32} (hR : kR h t s) (e0 : x0 = 12 ∨ x0 = 21) (k1 : (kI t x0 3) ≤ x1 → (∀ {h : zz_H}, kR h t s → zz_J zp_P zt_tf zt_fd X d zm_211 21 [] [] h Q)) (k2 : ¬ (kI t x0 3) ≤ x1 → (∀ {h : zz_H}, kR h t s → zz_J zp_P zt_tf zt_fd X d zm_211 12 [(0, .ref x0), (1, .int x1)] [] h Q)) : zz_J zp_P zt_tf zt_fd X d zm_211 4 [(0, .ref x0), (1, .int x1)] [] h Q := by
  refine zz_J.n 5 rfl rfl rfl ?_
  refine zz_J.n 6 rfl rfl rfl ?_
  refine zz_J.g 9 rfl (hR.gv (v := .int (kI t x0 3)) (ko_P e0) (by decide) rfl) rfl ?_
  refine zz_J.b2 21 12 (A := (kI t x0 3) ≤ x1) rfl rfl (by decide) rfl rfl (fun c => ?_) (fun c => ?_)
  · exact zz_J.weak (k1 c hR) rfl trivial
  · exact zz_J.weak (k2 c hR) rfl ⟨rfl, rfl, trivial⟩
theorem cb_211_12 {X : Nat → Option zz_C} {h : zz_H} {t : cS} {s : mS} {d : Nat} {Q : zz_O → zz_H → Prop} {x0 : Nat} {x1 : Int32} (hR : kR h t s) (e0 : x0 = 12 ∨ x0 = 21) (e1 : ¬ (x1 < 0 ∨ (kA t (x0 + 1)).1 ≤ (Int32.toNatClampNeg x1))) (k : ∀ {h : zz_H}, kR h t s → zz_J zp_P zt_tf zt_fd X d zm_211 23 [] [.int ((kA t (x0 + 1)).2 (Int32.toNatClampNeg x1))] h Q) : zz_J zp_P zt_tf zt_fd X d zm_211 12 [(0, .ref x0), (1, .int x1)] [] h Q := by
  refine zz_J.n 13 rfl rfl rfl ?_
  refine zz_J.g 16 rfl (hR.gv (v := .ref (kD t (x0 + 1))) (ko_P e0) (by decide) rfl) rfl ?_
  refine zz_J.n 17 rfl rfl rfl ?_
  refine zz_J.ai 18 rfl (hR.ai (w := ((kA t (x0 + 1)).2 (Int32.toNatClampNeg x1))) (ka_P1 e0) rfl e1 rfl) rfl ?_
  refine zz_J.n 23 rfl rfl rfl ?_
  exact zz_J.weak (k hR) rfl trivial
theorem cb_211_21 {X : Nat → Option zz_C} {h : zz_H} {t : cS} {s : mS} {d : Nat} {Q : zz_O → zz_H → Prop}  (hR : kR h t s) (k : ∀ {h : zz_H}, kR h t s → zz_J zp_P zt_tf zt_fd X d zm_211 23 [] [.int 8] h Q) : zz_J zp_P zt_tf zt_fd X d zm_211 21 [] [] h Q := by
  refine zz_J.c 23 (.int 8) rfl rfl rfl rfl ?_
  exact zz_J.weak (k hR) rfl trivial
theorem cb_211_23 {X : Nat → Option zz_C} {h : zz_H} {t : cS} {s : mS} {d : Nat} {Q : zz_O → zz_H → Prop} {y0 : Int32} (hR : kR h t s) (k : ∀ {h : zz_H}, kR h t s → Q (.inl (some (.int y0))) h) : zz_J zp_P zt_tf zt_fd X d zm_211 23 [] [.int y0] h Q := by
  refine zz_J.ret rfl rfl rfl ?_
  exact k hR
def cf_211_23 (N : Nat) (X : Nat → Option zz_C) (y0 : Int32) (t : cS) : kO := some (t, .inl (some (.int y0)))
theorem cr_211_23 {X : Nat → Option zz_C} {s : mS} {N : Nat} {d : Nat} (hd : 0 ≤ d) {Q : zz_O → zz_H → Prop} {y0 : Int32} {h : zz_H} {t t' : cS} {o : kY} (hR : kR h t s) (hf : cf_211_23 N X y0 t = some (t', o)) (k : (∀ h', kR h' t' s → kE o Q h')) : zz_J zp_P zt_tf zt_fd X d zm_211 23 [] [.int y0] h Q := by
  unfold cf_211_23 at hf
  cases hf
  exact cb_211_23 hR  (fun {h} hR => k h hR)
def cf_211_21 (N : Nat) (X : Nat → Option zz_C)  (t : cS) : kO := cf_211_23 N X 8 t
theorem cr_211_21 {X : Nat → Option zz_C} {s : mS} {N : Nat} {d : Nat} (hd : 0 ≤ d) {Q : zz_O → zz_H → Prop}  {h : zz_H} {t t' : cS} {o : kY} (hR : kR h t s) (hf : cf_211_21 N X  t = some (t', o)) (k : (∀ h', kR h' t' s → kE o Q h')) : zz_J zp_P zt_tf zt_fd X d zm_211 21 [] [] h Q := by
  unfold cf_211_21 at hf
  exact cb_211_21 hR  (fun hR => cr_211_23 hd hR hf k)
def cf_211_12 (N : Nat) (X : Nat → Option zz_C) (x0 : Nat) (x1 : Int32) (t : cS) : kO := if x0 = 12 ∨ x0 = 21 then (if ¬ (x1 < 0 ∨ (kA t (x0 + 1)).1 ≤ (Int32.toNatClampNeg x1)) then (cf_211_23 N X ((kA t (x0 + 1)).2 (Int32.toNatClampNeg x1)) t) else none) else none
theorem cr_211_12 {X : Nat → Option zz_C} {s : mS} {N : Nat} {d : Nat} (hd : 0 ≤ d) {Q : zz_O → zz_H → Prop} {x0 : Nat} {x1 : Int32} {h : zz_H} {t t' : cS} {o : kY} (hR : kR h t s) (hf : cf_211_12 N X x0 x1 t = some (t', o)) (k : (∀ h', kR h' t' s → kE o Q h')) : zz_J zp_P zt_tf zt_fd X d zm_211 12 [(0, .ref x0), (1, .int x1)] [] h Q := by
  unfold cf_211_12 at hf
  obtain ⟨e0, hf⟩ := ko_if hf
  obtain ⟨e1, hf⟩ := ko_if hf
  exact cb_211_12 hR e0 e1 (fun hR => cr_211_23 hd hR hf k)
def cf_211_4 (N : Nat) (X : Nat → Option zz_C) (x0 : Nat) (x1 : Int32) (t : cS) : kO := if x0 = 12 ∨ x0 = 21 then (if (kI t x0 3) ≤ x1 then cf_211_21 N X  t else cf_211_12 N X x0 x1 t) else none
theorem cr_211_4 {X : Nat → Option zz_C} {s : mS} {N : Nat} {d : Nat} (hd : 0 ≤ d) {Q : zz_O → zz_H → Prop} {x0 : Nat} {x1 : Int32} {h : zz_H} {t t' : cS} {o : kY} (hR : kR h t s) (hf : cf_211_4 N X x0 x1 t = some (t', o)) (k : (∀ h', kR h' t' s → kE o Q h')) : zz_J zp_P zt_tf zt_fd X d zm_211 4 [(0, .ref x0), (1, .int x1)] [] h Q := by
  unfold cf_211_4 at hf
  obtain ⟨e0, hf⟩ := ko_if hf
  refine cb_211_4 hR e0 (fun c {h} hR => ?_) (fun c {h} hR => ?_)
  · rw [if_pos c] at hf
    exact cr_211_21 hd hR hf k
  · rw [if_neg c] at hf
    exact cr_211_12 hd hR hf k
def cf_211_0 (N : Nat) (X : Nat → Option zz_C) (x0 : Nat) (x1 : Int32) (t : cS) : kO := if x1 < 0 then cf_211_21 N X  t else cf_211_4 N X x0 x1 t
theorem cr_211_0 {X : Nat → Option zz_C} {s : mS} {N : Nat} {d : Nat} (hd : 0 ≤ d) {Q : zz_O → zz_H → Prop} {x0 : Nat} {x1 : Int32} {h : zz_H} {t t' : cS} {o : kY} (hR : kR h t s) (hf : cf_211_0 N X x0 x1 t = some (t', o)) (k : (∀ h', kR h' t' s → kE o Q h')) : zz_J zp_P zt_tf zt_fd X d zm_211 0 [(0, .ref x0), (1, .int x1)] [] h Q := by
  unfold cf_211_0 at hf
  refine cb_211_0 hR  (fun c {h} hR => ?_) (fun c {h} hR => ?_)
  · rw [if_pos c] at hf
    exact cr_211_21 hd hR hf k
  · rw [if_neg c] at hf
    exact cr_211_4 hd hR hf k
/-- actAt -/
def cf_211 (N : Nat) (X : Nat → Option zz_C) (x0 : Nat) (x1 : Int32) (t : cS) : kO := cf_211_0 N X x0 x1 t
theorem cr_211 {X : Nat → Option zz_C} {s : mS} {N : Nat} {d : Nat} (hd : 0 ≤ d) {Q : zz_O → zz_H → Prop} {x0 : Nat} {x1 : Int32} {h : zz_H} {t t' : cS} {o : kY} (hR : kR h t s) (hf : cf_211 N X x0 x1 t = some (t', o)) (k : ∀ h', kR h' t' s → kE o Q h') : zz_J zp_P zt_tf zt_fd X d zm_211 0 [(0, .ref x0), (1, .int x1)] [] h Q := by
  unfold cf_211 at hf
  exact zz_J.weak (cr_211_0 hd hR hf k) rfl ⟨rfl, rfl, trivial⟩
/-! yX6_argumentAt (I)I -/
theorem cb_212_0 {X : Nat → Option zz_C} {h : zz_H} {t : cS} {s : mS} {d : Nat} {Q : zz_O → zz_H → Prop} {x0 : Nat} {x1 : Int32} (hR : kR h t s) (k1 : x1 < 0 → (∀ {h : zz_H}, kR h t s → zz_J zp_P zt_tf zt_fd X d zm_212 21 [] [] h Q)) (k2 : ¬ x1 < 0 → (∀ {h : zz_H}, kR h t s → zz_J zp_P zt_tf zt_fd X d zm_212 4 [(0, .ref x0), (1, .int x1)] [] h Q)) : zz_J zp_P zt_tf zt_fd X d zm_212 0 [(0, .ref x0), (1, .int x1)] [] h Q := by
  refine zz_J.n 1 rfl rfl rfl ?_
  refine zz_J.b1 21 4 (A := x1 < 0) rfl rfl (by decide) rfl rfl (fun c => ?_) (fun c => ?_)
  · exact zz_J.weak (k1 c hR) rfl trivial
  · exact zz_J.weak (k2 c hR) rfl ⟨rfl, rfl, trivial⟩
theorem cb_212_4 {X : Nat → Option zz_C} {h : zz_H} {t : cS} {s : mS} {d : Nat} {Q : zz_O → zz_H → Prop} {x0 : Nat} {x1 : Int32} (hR : kR h t s) (e0 : x0 = 12 ∨ x0 = 21) (k1 : (kI t x0 3) ≤ x1 → (∀ {h : zz_H}, kR h t s → zz_J zp_P zt_tf zt_fd X d zm_212 21 [] [] h Q)) (k2 : ¬ (kI t x0 3) ≤ x1 → (∀ {h : zz_H}, kR h t s → zz_J zp_P zt_tf zt_fd X d zm_212 12 [(0, .ref x0), (1, .int x1)] [] h Q)) : zz_J zp_P zt_tf zt_fd X d zm_212 4 [(0, .ref x0), (1, .int x1)] [] h Q := by
  refine zz_J.n 5 rfl rfl rfl ?_
  refine zz_J.n 6 rfl rfl rfl ?_
  refine zz_J.g 9 rfl (hR.gv (v := .int (kI t x0 3)) (ko_P e0) (by decide) rfl) rfl ?_
  refine zz_J.b2 21 12 (A := (kI t x0 3) ≤ x1) rfl rfl (by decide) rfl rfl (fun c => ?_) (fun c => ?_)
  · exact zz_J.weak (k1 c hR) rfl trivial
  · exact zz_J.weak (k2 c hR) rfl ⟨rfl, rfl, trivial⟩
theorem cb_212_12 {X : Nat → Option zz_C} {h : zz_H} {t : cS} {s : mS} {d : Nat} {Q : zz_O → zz_H → Prop} {x0 : Nat} {x1 : Int32} (hR : kR h t s) (e0 : x0 = 12 ∨ x0 = 21) (e1 : ¬ (x1 < 0 ∨ (kA t (x0 + 2)).1 ≤ (Int32.toNatClampNeg x1))) (k : ∀ {h : zz_H}, kR h t s → zz_J zp_P zt_tf zt_fd X d zm_212 22 [] [.int ((kA t (x0 + 2)).2 (Int32.toNatClampNeg x1))] h Q) : zz_J zp_P zt_tf zt_fd X d zm_212 12 [(0, .ref x0), (1, .int x1)] [] h Q := by
  refine zz_J.n 13 rfl rfl rfl ?_
  refine zz_J.g 16 rfl (hR.gv (v := .ref (kD t (x0 + 2))) (ko_P e0) (by decide) rfl) rfl ?_
  refine zz_J.n 17 rfl rfl rfl ?_
  refine zz_J.ai 18 rfl (hR.ai (w := ((kA t (x0 + 2)).2 (Int32.toNatClampNeg x1))) (ka_P2 e0) rfl e1 rfl) rfl ?_
  refine zz_J.n 22 rfl rfl rfl ?_
  exact zz_J.weak (k hR) rfl trivial
theorem cb_212_21 {X : Nat → Option zz_C} {h : zz_H} {t : cS} {s : mS} {d : Nat} {Q : zz_O → zz_H → Prop}  (hR : kR h t s) (k : ∀ {h : zz_H}, kR h t s → zz_J zp_P zt_tf zt_fd X d zm_212 22 [] [.int 0] h Q) : zz_J zp_P zt_tf zt_fd X d zm_212 21 [] [] h Q := by
  refine zz_J.c 22 (.int 0) rfl rfl rfl rfl ?_
  exact zz_J.weak (k hR) rfl trivial
theorem cb_212_22 {X : Nat → Option zz_C} {h : zz_H} {t : cS} {s : mS} {d : Nat} {Q : zz_O → zz_H → Prop} {y0 : Int32} (hR : kR h t s) (k : ∀ {h : zz_H}, kR h t s → Q (.inl (some (.int y0))) h) : zz_J zp_P zt_tf zt_fd X d zm_212 22 [] [.int y0] h Q := by
  refine zz_J.ret rfl rfl rfl ?_
  exact k hR
def cf_212_22 (N : Nat) (X : Nat → Option zz_C) (y0 : Int32) (t : cS) : kO := some (t, .inl (some (.int y0)))
theorem cr_212_22 {X : Nat → Option zz_C} {s : mS} {N : Nat} {d : Nat} (hd : 0 ≤ d) {Q : zz_O → zz_H → Prop} {y0 : Int32} {h : zz_H} {t t' : cS} {o : kY} (hR : kR h t s) (hf : cf_212_22 N X y0 t = some (t', o)) (k : (∀ h', kR h' t' s → kE o Q h')) : zz_J zp_P zt_tf zt_fd X d zm_212 22 [] [.int y0] h Q := by
  unfold cf_212_22 at hf
  cases hf
  exact cb_212_22 hR  (fun {h} hR => k h hR)
def cf_212_21 (N : Nat) (X : Nat → Option zz_C)  (t : cS) : kO := cf_212_22 N X 0 t
theorem cr_212_21 {X : Nat → Option zz_C} {s : mS} {N : Nat} {d : Nat} (hd : 0 ≤ d) {Q : zz_O → zz_H → Prop}  {h : zz_H} {t t' : cS} {o : kY} (hR : kR h t s) (hf : cf_212_21 N X  t = some (t', o)) (k : (∀ h', kR h' t' s → kE o Q h')) : zz_J zp_P zt_tf zt_fd X d zm_212 21 [] [] h Q := by
  unfold cf_212_21 at hf
  exact cb_212_21 hR  (fun hR => cr_212_22 hd hR hf k)
def cf_212_12 (N : Nat) (X : Nat → Option zz_C) (x0 : Nat) (x1 : Int32) (t : cS) : kO := if x0 = 12 ∨ x0 = 21 then (if ¬ (x1 < 0 ∨ (kA t (x0 + 2)).1 ≤ (Int32.toNatClampNeg x1)) then (cf_212_22 N X ((kA t (x0 + 2)).2 (Int32.toNatClampNeg x1)) t) else none) else none
theorem cr_212_12 {X : Nat → Option zz_C} {s : mS} {N : Nat} {d : Nat} (hd : 0 ≤ d) {Q : zz_O → zz_H → Prop} {x0 : Nat} {x1 : Int32} {h : zz_H} {t t' : cS} {o : kY} (hR : kR h t s) (hf : cf_212_12 N X x0 x1 t = some (t', o)) (k : (∀ h', kR h' t' s → kE o Q h')) : zz_J zp_P zt_tf zt_fd X d zm_212 12 [(0, .ref x0), (1, .int x1)] [] h Q := by
  unfold cf_212_12 at hf
  obtain ⟨e0, hf⟩ := ko_if hf
  obtain ⟨e1, hf⟩ := ko_if hf
  exact cb_212_12 hR e0 e1 (fun hR => cr_212_22 hd hR hf k)
def cf_212_4 (N : Nat) (X : Nat → Option zz_C) (x0 : Nat) (x1 : Int32) (t : cS) : kO := if x0 = 12 ∨ x0 = 21 then (if (kI t x0 3) ≤ x1 then cf_212_21 N X  t else cf_212_12 N X x0 x1 t) else none
theorem cr_212_4 {X : Nat → Option zz_C} {s : mS} {N : Nat} {d : Nat} (hd : 0 ≤ d) {Q : zz_O → zz_H → Prop} {x0 : Nat} {x1 : Int32} {h : zz_H} {t t' : cS} {o : kY} (hR : kR h t s) (hf : cf_212_4 N X x0 x1 t = some (t', o)) (k : (∀ h', kR h' t' s → kE o Q h')) : zz_J zp_P zt_tf zt_fd X d zm_212 4 [(0, .ref x0), (1, .int x1)] [] h Q := by
  unfold cf_212_4 at hf
  obtain ⟨e0, hf⟩ := ko_if hf
  refine cb_212_4 hR e0 (fun c {h} hR => ?_) (fun c {h} hR => ?_)
  · rw [if_pos c] at hf
    exact cr_212_21 hd hR hf k
  · rw [if_neg c] at hf
    exact cr_212_12 hd hR hf k
def cf_212_0 (N : Nat) (X : Nat → Option zz_C) (x0 : Nat) (x1 : Int32) (t : cS) : kO := if x1 < 0 then cf_212_21 N X  t else cf_212_4 N X x0 x1 t
theorem cr_212_0 {X : Nat → Option zz_C} {s : mS} {N : Nat} {d : Nat} (hd : 0 ≤ d) {Q : zz_O → zz_H → Prop} {x0 : Nat} {x1 : Int32} {h : zz_H} {t t' : cS} {o : kY} (hR : kR h t s) (hf : cf_212_0 N X x0 x1 t = some (t', o)) (k : (∀ h', kR h' t' s → kE o Q h')) : zz_J zp_P zt_tf zt_fd X d zm_212 0 [(0, .ref x0), (1, .int x1)] [] h Q := by
  unfold cf_212_0 at hf
  refine cb_212_0 hR  (fun c {h} hR => ?_) (fun c {h} hR => ?_)
  · rw [if_pos c] at hf
    exact cr_212_21 hd hR hf k
  · rw [if_neg c] at hf
    exact cr_212_4 hd hR hf k
/-- argumentAt -/
def cf_212 (N : Nat) (X : Nat → Option zz_C) (x0 : Nat) (x1 : Int32) (t : cS) : kO := cf_212_0 N X x0 x1 t
theorem cr_212 {X : Nat → Option zz_C} {s : mS} {N : Nat} {d : Nat} (hd : 0 ≤ d) {Q : zz_O → zz_H → Prop} {x0 : Nat} {x1 : Int32} {h : zz_H} {t t' : cS} {o : kY} (hR : kR h t s) (hf : cf_212 N X x0 x1 t = some (t', o)) (k : ∀ h', kR h' t' s → kE o Q h') : zz_J zp_P zt_tf zt_fd X d zm_212 0 [(0, .ref x0), (1, .int x1)] [] h Q := by
  unfold cf_212 at hf
  exact zz_J.weak (cr_212_0 hd hR hf k) rfl ⟨rfl, rfl, trivial⟩
