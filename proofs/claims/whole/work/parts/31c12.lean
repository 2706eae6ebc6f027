/-! yX3_move (III)V -/
theorem cb_142_0 {X : Nat → Option zz_C} {h : zz_H} {t : cS} {s : mS} {d : Nat} {Q : zz_O → zz_H → Prop} {x1 : Int32} {x2 : Int32} {x3 : Int32} (hR : kR h t s) (c0 : x1 = 0 → (∀ {h : zz_H}, kR h t s → zz_J zp_P zt_tf zt_fd X d zm_142 131 [(0, .ref 49), (2, .int x2)] [] h Q)) (c1 : x1 = 1 → (∀ {h : zz_H}, kR h t s → zz_J zp_P zt_tf zt_fd X d zm_142 143 [(0, .ref 49), (2, .int x2), (3, .int x3)] [] h Q)) (c2 : x1 = 2 → (∀ {h : zz_H}, kR h t s → zz_J zp_P zt_tf zt_fd X d zm_142 152 [(0, .ref 49), (2, .int x2)] [] h Q)) (c3 : x1 = 3 → (∀ {h : zz_H}, kR h t s → zz_J zp_P zt_tf zt_fd X d zm_142 160 [(0, .ref 49)] [] h Q)) (c4 : x1 = 4 → (∀ {h : zz_H}, kR h t s → zz_J zp_P zt_tf zt_fd X d zm_142 168 [(0, .ref 49), (2, .int x2)] [] h Q)) (c5 : x1 = 5 → (∀ {h : zz_H}, kR h t s → zz_J zp_P zt_tf zt_fd X d zm_142 176 [(0, .ref 49), (2, .int x2), (3, .int x3)] [] h Q)) (c6 : x1 = 6 → (∀ {h : zz_H}, kR h t s → zz_J zp_P zt_tf zt_fd X d zm_142 185 [(0, .ref 49), (3, .int x3)] [] h Q)) (c7 : x1 = 7 → (∀ {h : zz_H}, kR h t s → zz_J zp_P zt_tf zt_fd X d zm_142 201 [(0, .ref 49)] [] h Q)) (c8 : x1 = 8 → (∀ {h : zz_H}, kR h t s → zz_J zp_P zt_tf zt_fd X d zm_142 228 [(0, .ref 49)] [] h Q)) (c9 : x1 = 9 → (∀ {h : zz_H}, kR h t s → zz_J zp_P zt_tf zt_fd X d zm_142 235 [(0, .ref 49), (3, .int x3)] [] h Q)) (c10 : x1 = 10 → (∀ {h : zz_H}, kR h t s → zz_J zp_P zt_tf zt_fd X d zm_142 243 [(0, .ref 49), (2, .int x2)] [] h Q)) (c11 : x1 = 11 → (∀ {h : zz_H}, kR h t s → zz_J zp_P zt_tf zt_fd X d zm_142 251 [(0, .ref 49), (2, .int x2)] [] h Q)) (c12 : x1 = 12 → (∀ {h : zz_H}, kR h t s → zz_J zp_P zt_tf zt_fd X d zm_142 273 [(0, .ref 49), (3, .int x3)] [] h Q)) (c13 : x1 = 13 → (∀ {h : zz_H}, kR h t s → zz_J zp_P zt_tf zt_fd X d zm_142 281 [(0, .ref 49), (2, .int x2), (3, .int x3)] [] h Q)) (c14 : x1 = 14 → (∀ {h : zz_H}, kR h t s → zz_J zp_P zt_tf zt_fd X d zm_142 281 [(0, .ref 49), (2, .int x2), (3, .int x3)] [] h Q)) (c15 : x1 = 15 → (∀ {h : zz_H}, kR h t s → zz_J zp_P zt_tf zt_fd X d zm_142 281 [(0, .ref 49), (2, .int x2), (3, .int x3)] [] h Q)) (c16 : x1 = 16 → (∀ {h : zz_H}, kR h t s → zz_J zp_P zt_tf zt_fd X d zm_142 281 [(0, .ref 49), (2, .int x2), (3, .int x3)] [] h Q)) (c17 : x1 = 17 → (∀ {h : zz_H}, kR h t s → zz_J zp_P zt_tf zt_fd X d zm_142 281 [(0, .ref 49), (2, .int x2), (3, .int x3)] [] h Q)) (c18 : x1 = 18 → (∀ {h : zz_H}, kR h t s → zz_J zp_P zt_tf zt_fd X d zm_142 281 [(0, .ref 49), (2, .int x2), (3, .int x3)] [] h Q)) (c19 : x1 = 19 → (∀ {h : zz_H}, kR h t s → zz_J zp_P zt_tf zt_fd X d zm_142 281 [(0, .ref 49), (2, .int x2), (3, .int x3)] [] h Q)) (c20 : x1 = 20 → (∀ {h : zz_H}, kR h t s → zz_J zp_P zt_tf zt_fd X d zm_142 281 [(0, .ref 49), (2, .int x2), (3, .int x3)] [] h Q)) (c21 : x1 = 21 → (∀ {h : zz_H}, kR h t s → zz_J zp_P zt_tf zt_fd X d zm_142 281 [(0, .ref 49), (2, .int x2), (3, .int x3)] [] h Q)) (c22 : x1 = 22 → (∀ {h : zz_H}, kR h t s → zz_J zp_P zt_tf zt_fd X d zm_142 281 [(0, .ref 49), (2, .int x2), (3, .int x3)] [] h Q)) (c23 : x1 = 23 → (∀ {h : zz_H}, kR h t s → zz_J zp_P zt_tf zt_fd X d zm_142 281 [(0, .ref 49), (2, .int x2), (3, .int x3)] [] h Q)) (c24 : x1 = 24 → (∀ {h : zz_H}, kR h t s → zz_J zp_P zt_tf zt_fd X d zm_142 281 [(0, .ref 49), (2, .int x2), (3, .int x3)] [] h Q)) (c25 : x1 = 25 → (∀ {h : zz_H}, kR h t s → zz_J zp_P zt_tf zt_fd X d zm_142 281 [(0, .ref 49), (2, .int x2), (3, .int x3)] [] h Q)) (c26 : x1 = 26 → (∀ {h : zz_H}, kR h t s → zz_J zp_P zt_tf zt_fd X d zm_142 128 [] [] h Q)) (c27 : x1 = 27 → (∀ {h : zz_H}, kR h t s → zz_J zp_P zt_tf zt_fd X d zm_142 193 [(0, .ref 49), (2, .int x2)] [] h Q)) (kd : (Int32.toInt x1 < 0 ∨ 27 < Int32.toInt x1) → (∀ {h : zz_H}, kR h t s → zz_J zp_P zt_tf zt_fd X d zm_142 281 [(0, .ref 49), (2, .int x2), (3, .int x3)] [] h Q)) : zz_J zp_P zt_tf zt_fd X d zm_142 0 [(0, .ref 49), (1, .int x1), (2, .int x2), (3, .int x3)] [] h Q := by
  refine zz_J.n 1 rfl rfl rfl ?_
  by_cases hx : Int32.toInt x1 < 0 ∨ 27 < Int32.toInt x1
  · exact zz_J.td 281 rfl hx (by decide) rfl (zz_J.weak (kd hx hR) rfl ⟨rfl, rfl, rfl, trivial⟩)
  · have hv : Int32.toInt x1 = 0 ∨ Int32.toInt x1 = 1 ∨ Int32.toInt x1 = 2 ∨ Int32.toInt x1 = 3 ∨ Int32.toInt x1 = 4 ∨ Int32.toInt x1 = 5 ∨ Int32.toInt x1 = 6 ∨ Int32.toInt x1 = 7 ∨ Int32.toInt x1 = 8 ∨ Int32.toInt x1 = 9 ∨ Int32.toInt x1 = 10 ∨ Int32.toInt x1 = 11 ∨ Int32.toInt x1 = 12 ∨ Int32.toInt x1 = 13 ∨ Int32.toInt x1 = 14 ∨ Int32.toInt x1 = 15 ∨ Int32.toInt x1 = 16 ∨ Int32.toInt x1 = 17 ∨ Int32.toInt x1 = 18 ∨ Int32.toInt x1 = 19 ∨ Int32.toInt x1 = 20 ∨ Int32.toInt x1 = 21 ∨ Int32.toInt x1 = 22 ∨ Int32.toInt x1 = 23 ∨ Int32.toInt x1 = 24 ∨ Int32.toInt x1 = 25 ∨ Int32.toInt x1 = 26 ∨ Int32.toInt x1 = 27 := by omega
    rcases hv with hv | hv | hv | hv | hv | hv | hv | hv | hv | hv | hv | hv | hv | hv | hv | hv | hv | hv | hv | hv | hv | hv | hv | hv | hv | hv | hv | hv
    · have e : x1 = 0 := Int32.toInt_inj.mp (hv.trans rfl)
      exact zz_J.tv 131 rfl e rfl (zz_J.weak (c0 e hR) rfl ⟨rfl, rfl, trivial⟩)
    · have e : x1 = 1 := Int32.toInt_inj.mp (hv.trans rfl)
      exact zz_J.tv 143 rfl e rfl (zz_J.weak (c1 e hR) rfl ⟨rfl, rfl, rfl, trivial⟩)
    · have e : x1 = 2 := Int32.toInt_inj.mp (hv.trans rfl)
      exact zz_J.tv 152 rfl e rfl (zz_J.weak (c2 e hR) rfl ⟨rfl, rfl, trivial⟩)
    · have e : x1 = 3 := Int32.toInt_inj.mp (hv.trans rfl)
      exact zz_J.tv 160 rfl e rfl (zz_J.weak (c3 e hR) rfl ⟨rfl, trivial⟩)
    · have e : x1 = 4 := Int32.toInt_inj.mp (hv.trans rfl)
      exact zz_J.tv 168 rfl e rfl (zz_J.weak (c4 e hR) rfl ⟨rfl, rfl, trivial⟩)
    · have e : x1 = 5 := Int32.toInt_inj.mp (hv.trans rfl)
      exact zz_J.tv 176 rfl e rfl (zz_J.weak (c5 e hR) rfl ⟨rfl, rfl, rfl, trivial⟩)
    · have e : x1 = 6 := Int32.toInt_inj.mp (hv.trans rfl)
      exact zz_J.tv 185 rfl e rfl (zz_J.weak (c6 e hR) rfl ⟨rfl, rfl, trivial⟩)
    · have e : x1 = 7 := Int32.toInt_inj.mp (hv.trans rfl)
      exact zz_J.tv 201 rfl e rfl (zz_J.weak (c7 e hR) rfl ⟨rfl, trivial⟩)
    · have e : x1 = 8 := Int32.toInt_inj.mp (hv.trans rfl)
      exact zz_J.tv 228 rfl e rfl (zz_J.weak (c8 e hR) rfl ⟨rfl, trivial⟩)
    · have e : x1 = 9 := Int32.toInt_inj.mp (hv.trans rfl)
      exact zz_J.tv 235 rfl e rfl (zz_J.weak (c9 e hR) rfl ⟨rfl, rfl, trivial⟩)
    · have e : x1 = 10 := Int32.toInt_inj.mp (hv.trans rfl)
      exact zz_J.tv 243 rfl e rfl (zz_J.weak (c10 e hR) rfl ⟨rfl, rfl, trivial⟩)
    · have e : x1 = 11 := Int32.toInt_inj.mp (hv.trans rfl)
      exact zz_J.tv 251 rfl e rfl (zz_J.weak (c11 e hR) rfl ⟨rfl, rfl, trivial⟩)
    · have e : x1 = 12 := Int32.toInt_inj.mp (hv.trans rfl)
      exact zz_J.tv 273 rfl e rfl (zz_J.weak (c12 e hR) rfl ⟨rfl, rfl, trivial⟩)
    · have e : x1 = 13 := Int32.toInt_inj.mp (hv.trans rfl)
      exact zz_J.tv 281 rfl e rfl (zz_J.weak (c13 e hR) rfl ⟨rfl, rfl, rfl, trivial⟩)
    · have e : x1 = 14 := Int32.toInt_inj.mp (hv.trans rfl)
      exact zz_J.tv 281 rfl e rfl (zz_J.weak (c14 e hR) rfl ⟨rfl, rfl, rfl, trivial⟩)
    · have e : x1 = 15 := Int32.toInt_inj.mp (hv.trans rfl)
      exact zz_J.tv 281 rfl e rfl (zz_J.weak (c15 e hR) rfl ⟨rfl, rfl, rfl, trivial⟩)
    · have e : x1 = 16 := Int32.toInt_inj.mp (hv.trans rfl)
      exact zz_J.tv 281 rfl e rfl (zz_J.weak (c16 e hR) rfl ⟨rfl, rfl, rfl, trivial⟩)
    · have e : x1 = 17 := Int32.toInt_inj.mp (hv.trans rfl)
      exact zz_J.tv 281 rfl e rfl (zz_J.weak (c17 e hR) rfl ⟨rfl, rfl, rfl, trivial⟩)
    · have e : x1 = 18 := Int32.toInt_inj.mp (hv.trans rfl)
      exact zz_J.tv 281 rfl e rfl (zz_J.weak (c18 e hR) rfl ⟨rfl, rfl, rfl, trivial⟩)
    · have e : x1 = 19 := Int32.toInt_inj.mp (hv.trans rfl)
      exact zz_J.tv 281 rfl e rfl (zz_J.weak (c19 e hR) rfl ⟨rfl, rfl, rfl, trivial⟩)
    · have e : x1 = 20 := Int32.toInt_inj.mp (hv.trans rfl)
      exact zz_J.tv 281 rfl e rfl (zz_J.weak (c20 e hR) rfl ⟨rfl, rfl, rfl, trivial⟩)
    · have e : x1 = 21 := Int32.toInt_inj.mp (hv.trans rfl)
      exact zz_J.tv 281 rfl e rfl (zz_J.weak (c21 e hR) rfl ⟨rfl, rfl, rfl, trivial⟩)
    · have e : x1 = 22 := Int32.toInt_inj.mp (hv.trans rfl)
      exact zz_J.tv 281 rfl e rfl (zz_J.weak (c22 e hR) rfl ⟨rfl, rfl, rfl, trivial⟩)
    · have e : x1 = 23 := Int32.toInt_inj.mp (hv.trans rfl)
      exact zz_J.tv 281 rfl e rfl (zz_J.weak (c23 e hR) rfl ⟨rfl, rfl, rfl, trivial⟩)
    · have e : x1 = 24 := Int32.toInt_inj.mp (hv.trans rfl)
      exact zz_J.tv 281 rfl e rfl (zz_J.weak (c24 e hR) rfl ⟨rfl, rfl, rfl, trivial⟩)
    · have e : x1 = 25 := Int32.toInt_inj.mp (hv.trans rfl)
      exact zz_J.tv 281 rfl e rfl (zz_J.weak (c25 e hR) rfl ⟨rfl, rfl, rfl, trivial⟩)
    · have e : x1 = 26 := Int32.toInt_inj.mp (hv.trans rfl)
      exact zz_J.tv 128 rfl e rfl (zz_J.weak (c26 e hR) rfl trivial)
    · have e : x1 = 27 := Int32.toInt_inj.mp (hv.trans rfl)
      exact zz_J.tv 193 rfl e rfl (zz_J.weak (c27 e hR) rfl ⟨rfl, rfl, trivial⟩)
theorem cb_142_128 {X : Nat → Option zz_C} {h : zz_H} {t : cS} {s : mS} {d : Nat} {Q : zz_O → zz_H → Prop}  (hR : kR h t s) (k : ∀ {h : zz_H}, kR h t s → zz_J zp_P zt_tf zt_fd X d zm_142 296 [] [] h Q) : zz_J zp_P zt_tf zt_fd X d zm_142 128 [] [] h Q := by
  refine zz_J.n 296 rfl rfl rfl ?_
  exact zz_J.weak (k hR) rfl trivial
theorem cb_142_131 {X : Nat → Option zz_C} {h : zz_H} {t : cS} {s : mS} {d : Nat} {Q : zz_O → zz_H → Prop} {x2 : Int32} (hR : kR h t s) (k : ∀ {h : zz_H}, kR h t s → zz_J zp_P zt_tf zt_fd X d zm_253 0 [(0, .int 0), (1, .int x2)] [] h (zz_after 1000 Q (fun v h' => zz_J zp_P zt_tf zt_fd X (d + 1) zm_142 137 [] (v.toList ++ [.ref 49]) h' Q))) : zz_J zp_P zt_tf zt_fd X (d + 1) zm_142 131 [(0, .ref 49), (2, .int x2)] [] h Q := by
  refine zz_J.n 132 rfl rfl rfl ?_
  refine zz_J.c 133 (.int 0) rfl rfl rfl rfl ?_
  refine zz_J.n 134 rfl rfl rfl ?_
  refine zz_J.cl (M' := zm_253) 137 rfl rfl (by decide) rfl rfl ⟨rfl, Nat.le_of_ble_eq_true rfl⟩ rfl ?_
  refine zz_J.mono (k hR) ?_
  intro o h' hE
  cases o with
  | inl v => exact zz_J.weak hE rfl trivial
  | inr q => exact hE
theorem cb_142_137 {X : Nat → Option zz_C} {h : zz_H} {t : cS} {s : mS} {d : Nat} {Q : zz_O → zz_H → Prop} {y1 : Int64} (hR : kR h t s) (k : ∀ {h : zz_H}, kR h t s → zz_J zp_P zt_tf zt_fd X d zm_165 0 [(0, .ref 49), (1, .long y1)] [] h (zz_after 3 Q (fun v h' => zz_J zp_P zt_tf zt_fd X (d + 1) zm_142 140 [] (v.toList ++ []) h' Q))) : zz_J zp_P zt_tf zt_fd X (d + 1) zm_142 137 [] [.long y1, .ref 49] h Q := by
  refine zz_J.cv 140 (as := []) rfl rfl (hR.clO ko_49 (by decide) (by decide)) (by decide) (Nat.le_of_ble_eq_true rfl) (Nat.le_of_ble_eq_true rfl) rfl (Nat.le_of_ble_eq_true rfl) rfl ?_
  refine zz_J.mono (k hR) ?_
  intro o h' hE
  cases o with
  | inl v => exact zz_J.weak hE rfl trivial
  | inr q => exact hE
theorem cb_142_140 {X : Nat → Option zz_C} {h : zz_H} {t : cS} {s : mS} {d : Nat} {Q : zz_O → zz_H → Prop}  (hR : kR h t s) (k : ∀ {h : zz_H}, kR h t s → zz_J zp_P zt_tf zt_fd X d zm_142 296 [] [] h Q) : zz_J zp_P zt_tf zt_fd X d zm_142 140 [] [] h Q := by
  refine zz_J.n 296 rfl rfl rfl ?_
  exact zz_J.weak (k hR) rfl trivial
theorem cb_142_143 {X : Nat → Option zz_C} {h : zz_H} {t : cS} {s : mS} {d : Nat} {Q : zz_O → zz_H → Prop} {x2 : Int32} {x3 : Int32} (hR : kR h t s) (k : ∀ {h : zz_H}, kR h t s → zz_J zp_P zt_tf zt_fd X d zm_147 0 [(0, .ref 49), (1, .int x2), (2, .int x3)] [] h (zz_after 3 Q (fun v h' => zz_J zp_P zt_tf zt_fd X (d + 1) zm_142 149 [] (v.toList ++ []) h' Q))) : zz_J zp_P zt_tf zt_fd X (d + 1) zm_142 143 [(0, .ref 49), (2, .int x2), (3, .int x3)] [] h Q := by
  refine zz_J.n 144 rfl rfl rfl ?_
  refine zz_J.n 145 rfl rfl rfl ?_
  refine zz_J.n 146 rfl rfl rfl ?_
  refine zz_J.cv 149 (as := []) rfl rfl (hR.clO ko_49 (by decide) (by decide)) (by decide) (Nat.le_of_ble_eq_true rfl) (Nat.le_of_ble_eq_true rfl) rfl (Nat.le_of_ble_eq_true rfl) rfl ?_
  refine zz_J.mono (k hR) ?_
  intro o h' hE
  cases o with
  | inl v => exact zz_J.weak hE rfl trivial
  | inr q => exact hE
theorem cb_142_149 {X : Nat → Option zz_C} {h : zz_H} {t : cS} {s : mS} {d : Nat} {Q : zz_O → zz_H → Prop}  (hR : kR h t s) (k : ∀ {h : zz_H}, kR h t s → zz_J zp_P zt_tf zt_fd X d zm_142 296 [] [] h Q) : zz_J zp_P zt_tf zt_fd X d zm_142 149 [] [] h Q := by
  refine zz_J.n 296 rfl rfl rfl ?_
  exact zz_J.weak (k hR) rfl trivial
theorem cb_142_152 {X : Nat → Option zz_C} {h : zz_H} {t : cS} {s : mS} {d : Nat} {Q : zz_O → zz_H → Prop} {x2 : Int32} (hR : kR h t s) (k : ∀ {h : zz_H}, kR h t s → zz_J zp_P zt_tf zt_fd X d zm_148 0 [(0, .ref 49), (1, .int x2)] [] h (zz_after 3 Q (fun v h' => zz_J zp_P zt_tf zt_fd X (d + 1) zm_142 157 [] (v.toList ++ []) h' Q))) : zz_J zp_P zt_tf zt_fd X (d + 1) zm_142 152 [(0, .ref 49), (2, .int x2)] [] h Q := by
  refine zz_J.n 153 rfl rfl rfl ?_
  refine zz_J.n 154 rfl rfl rfl ?_
  refine zz_J.cv 157 (as := []) rfl rfl (hR.clO ko_49 (by decide) (by decide)) (by decide) (Nat.le_of_ble_eq_true rfl) (Nat.le_of_ble_eq_true rfl) rfl (Nat.le_of_ble_eq_true rfl) rfl ?_
  refine zz_J.mono (k hR) ?_
  intro o h' hE
  cases o with
  | inl v => exact zz_J.weak hE rfl trivial
  | inr q => exact hE
theorem cb_142_157 {X : Nat → Option zz_C} {h : zz_H} {t : cS} {s : mS} {d : Nat} {Q : zz_O → zz_H → Prop}  (hR : kR h t s) (k : ∀ {h : zz_H}, kR h t s → zz_J zp_P zt_tf zt_fd X d zm_142 296 [] [] h Q) : zz_J zp_P zt_tf zt_fd X d zm_142 157 [] [] h Q := by
  refine zz_J.n 296 rfl rfl rfl ?_
  exact zz_J.weak (k hR) rfl trivial
theorem cb_142_160 {X : Nat → Option zz_C} {h : zz_H} {t : cS} {s : mS} {d : Nat} {Q : zz_O → zz_H → Prop}  (hR : kR h t s) (k : ∀ {h : zz_H}, kR h t s → zz_J zp_P zt_tf zt_fd X d zm_166 0 [(0, .ref 49)] [] h (zz_after 3 Q (fun v h' => zz_J zp_P zt_tf zt_fd X (d + 1) zm_142 164 [] (v.toList ++ []) h' Q))) : zz_J zp_P zt_tf zt_fd X (d + 1) zm_142 160 [(0, .ref 49)] [] h Q := by
  refine zz_J.n 161 rfl rfl rfl ?_
  refine zz_J.cv 164 (as := []) rfl rfl (hR.clO ko_49 (by decide) (by decide)) (by decide) (Nat.le_of_ble_eq_true rfl) (Nat.le_of_ble_eq_true rfl) rfl (Nat.le_of_ble_eq_true rfl) rfl ?_
  refine zz_J.mono (k hR) ?_
  intro o h' hE
  cases o with
  | inl v => exact zz_J.weak hE rfl trivial
  | inr q => exact hE
theorem cb_142_164 {X : Nat → Option zz_C} {h : zz_H} {t : cS} {s : mS} {d : Nat} {Q : zz_O → zz_H → Prop} {y0 : Int64} (hR : kR h t s) (k : ∀ {h : zz_H}, kR h t s → zz_J zp_P zt_tf zt_fd X d zm_142 296 [] [] h Q) : zz_J zp_P zt_tf zt_fd X d zm_142 164 [] [.long y0] h Q := by
  refine zz_J.n 165 rfl rfl rfl ?_
  refine zz_J.n 296 rfl rfl rfl ?_
  exact zz_J.weak (k hR) rfl trivial
theorem cb_142_168 {X : Nat → Option zz_C} {h : zz_H} {t : cS} {s : mS} {d : Nat} {Q : zz_O → zz_H → Prop} {x2 : Int32} (hR : kR h t s) (k : ∀ {h : zz_H}, kR h (jI t 49 17 x2) s → zz_J zp_P zt_tf zt_fd X d zm_142 296 [] [] h Q) : zz_J zp_P zt_tf zt_fd X d zm_142 168 [(0, .ref 49), (2, .int x2)] [] h Q := by
  refine zz_J.n 169 rfl rfl rfl ?_
  refine zz_J.n 170 rfl rfl rfl ?_
  obtain ⟨h1, eq1, hR⟩ := hR.pI (x := x2) (by decide) ko_49 (kpi_49_17 _) (Nat.le_of_ble_eq_true rfl) rfl
  refine zz_J.pv 173 rfl eq1 rfl ?_
  clear eq1
  refine zz_J.n 296 rfl rfl rfl ?_
  exact zz_J.weak (k hR) rfl trivial
theorem cb_142_176 {X : Nat → Option zz_C} {h : zz_H} {t : cS} {s : mS} {d : Nat} {Q : zz_O → zz_H → Prop} {x2 : Int32} {x3 : Int32} (hR : kR h t s) (k : ∀ {h : zz_H}, kR h t s → zz_J zp_P zt_tf zt_fd X d zm_150 0 [(0, .ref 49), (1, .int x2), (2, .int x3)] [] h (zz_after 3 Q (fun v h' => zz_J zp_P zt_tf zt_fd X (d + 1) zm_142 182 [] (v.toList ++ []) h' Q))) : zz_J zp_P zt_tf zt_fd X (d + 1) zm_142 176 [(0, .ref 49), (2, .int x2), (3, .int x3)] [] h Q := by
  refine zz_J.n 177 rfl rfl rfl ?_
  refine zz_J.n 178 rfl rfl rfl ?_
  refine zz_J.n 179 rfl rfl rfl ?_
  refine zz_J.cv 182 (as := []) rfl rfl (hR.clO ko_49 (by decide) (by decide)) (by decide) (Nat.le_of_ble_eq_true rfl) (Nat.le_of_ble_eq_true rfl) rfl (Nat.le_of_ble_eq_true rfl) rfl ?_
  refine zz_J.mono (k hR) ?_
  intro o h' hE
  cases o with
  | inl v => exact zz_J.weak hE rfl trivial
  | inr q => exact hE
theorem cb_142_182 {X : Nat → Option zz_C} {h : zz_H} {t : cS} {s : mS} {d : Nat} {Q : zz_O → zz_H → Prop}  (hR : kR h t s) (k : ∀ {h : zz_H}, kR h t s → zz_J zp_P zt_tf zt_fd X d zm_142 296 [] [] h Q) : zz_J zp_P zt_tf zt_fd X d zm_142 182 [] [] h Q := by
  refine zz_J.n 296 rfl rfl rfl ?_
  exact zz_J.weak (k hR) rfl trivial
theorem cb_142_185 {X : Nat → Option zz_C} {h : zz_H} {t : cS} {s : mS} {d : Nat} {Q : zz_O → zz_H → Prop} {x3 : Int32} (hR : kR h t s) (k : ∀ {h : zz_H}, kR h t s → zz_J zp_P zt_tf zt_fd X d zm_151 0 [(0, .ref 49), (1, .int x3)] [] h (zz_after 3 Q (fun v h' => zz_J zp_P zt_tf zt_fd X (d + 1) zm_142 190 [] (v.toList ++ []) h' Q))) : zz_J zp_P zt_tf zt_fd X (d + 1) zm_142 185 [(0, .ref 49), (3, .int x3)] [] h Q := by
  refine zz_J.n 186 rfl rfl rfl ?_
  refine zz_J.n 187 rfl rfl rfl ?_
  refine zz_J.cv 190 (as := []) rfl rfl (hR.clO ko_49 (by decide) (by decide)) (by decide) (Nat.le_of_ble_eq_true rfl) (Nat.le_of_ble_eq_true rfl) rfl (Nat.le_of_ble_eq_true rfl) rfl ?_
  refine zz_J.mono (k hR) ?_
  intro o h' hE
  cases o with
  | inl v => exact zz_J.weak hE rfl trivial
  | inr q => exact hE
theorem cb_142_190 {X : Nat → Option zz_C} {h : zz_H} {t : cS} {s : mS} {d : Nat} {Q : zz_O → zz_H → Prop}  (hR : kR h t s) (k : ∀ {h : zz_H}, kR h t s → zz_J zp_P zt_tf zt_fd X d zm_142 296 [] [] h Q) : zz_J zp_P zt_tf zt_fd X d zm_142 190 [] [] h Q := by
  refine zz_J.n 296 rfl rfl rfl ?_
  exact zz_J.weak (k hR) rfl trivial
theorem cb_142_193 {X : Nat → Option zz_C} {h : zz_H} {t : cS} {s : mS} {d : Nat} {Q : zz_O → zz_H → Prop} {x2 : Int32} (hR : kR h t s) (k : ∀ {h : zz_H}, kR h t s → zz_J zp_P zt_tf zt_fd X d zm_152 0 [(0, .ref 49), (1, .int x2)] [] h (zz_after 3 Q (fun v h' => zz_J zp_P zt_tf zt_fd X (d + 1) zm_142 198 [] (v.toList ++ []) h' Q))) : zz_J zp_P zt_tf zt_fd X (d + 1) zm_142 193 [(0, .ref 49), (2, .int x2)] [] h Q := by
  refine zz_J.n 194 rfl rfl rfl ?_
  refine zz_J.n 195 rfl rfl rfl ?_
  refine zz_J.cv 198 (as := []) rfl rfl (hR.clO ko_49 (by decide) (by decide)) (by decide) (Nat.le_of_ble_eq_true rfl) (Nat.le_of_ble_eq_true rfl) rfl (Nat.le_of_ble_eq_true rfl) rfl ?_
  refine zz_J.mono (k hR) ?_
  intro o h' hE
  cases o with
  | inl v => exact zz_J.weak hE rfl trivial
  | inr q => exact hE
theorem cb_142_198 {X : Nat → Option zz_C} {h : zz_H} {t : cS} {s : mS} {d : Nat} {Q : zz_O → zz_H → Prop}  (hR : kR h t s) (k : ∀ {h : zz_H}, kR h t s → zz_J zp_P zt_tf zt_fd X d zm_142 296 [] [] h Q) : zz_J zp_P zt_tf zt_fd X d zm_142 198 [] [] h Q := by
  refine zz_J.n 296 rfl rfl rfl ?_
  exact zz_J.weak (k hR) rfl trivial
theorem cb_142_201 {X : Nat → Option zz_C} {h : zz_H} {t : cS} {s : mS} {d : Nat} {Q : zz_O → zz_H → Prop}  (hR : kR h t s) (k : ∀ {h : zz_H}, kR h t s → zz_J zp_P zt_tf zt_fd X d zm_166 0 [(0, .ref 49)] [] h (zz_after 3 Q (fun v h' => zz_J zp_P zt_tf zt_fd X (d + 1) zm_142 213 [(0, .ref 49)] (v.toList ++ [.ref 42, .ref 45]) h' Q))) : zz_J zp_P zt_tf zt_fd X (d + 1) zm_142 201 [(0, .ref 49)] [] h Q := by
  refine zz_J.n 202 rfl rfl rfl ?_
  refine zz_J.g 205 rfl (hR.gv (v := .ref 45) ko_49 (by decide) rfl) rfl ?_
  refine zz_J.n 206 rfl rfl rfl ?_
  refine zz_J.g 209 rfl (hR.gv (v := .ref 42) ko_49 (by decide) rfl) rfl ?_
  refine zz_J.n 210 rfl rfl rfl ?_
  refine zz_J.cv 213 (as := [.ref 42, .ref 45]) rfl rfl (hR.clO ko_49 (by decide) (by decide)) (by decide) (Nat.le_of_ble_eq_true rfl) (Nat.le_of_ble_eq_true rfl) rfl (Nat.le_of_ble_eq_true rfl) rfl ?_
  refine zz_J.mono (k hR) ?_
  intro o h' hE
  cases o with
  | inl v => exact zz_J.weak hE rfl ⟨rfl, trivial⟩
  | inr q => exact hE
theorem cb_142_213 {X : Nat → Option zz_C} {h : zz_H} {t : cS} {s : mS} {d : Nat} {Q : zz_O → zz_H → Prop} {y2 : Int64} (hR : kR h t s) (k : ∀ {h : zz_H}, kR h t s → zz_J zp_P zt_tf zt_fd X d zm_169 0 [(0, .ref 45), (1, .ref 42), (2, .long y2)] [] h (zz_after 4 Q (fun v h' => zz_J zp_P zt_tf zt_fd X (d + 1) zm_142 216 [(0, .ref 49)] (v.toList ++ []) h' Q))) : zz_J zp_P zt_tf zt_fd X (d + 1) zm_142 213 [(0, .ref 49)] [.long y2, .ref 42, .ref 45] h Q := by
  refine zz_J.cv 216 (as := []) rfl rfl (hR.clO ko_45 (by decide) (by decide)) (by decide) (Nat.le_of_ble_eq_true rfl) (Nat.le_of_ble_eq_true rfl) rfl (Nat.le_of_ble_eq_true rfl) rfl ?_
  refine zz_J.mono (k hR) ?_
  intro o h' hE
  cases o with
  | inl v => exact zz_J.weak hE rfl ⟨rfl, trivial⟩
  | inr q => exact hE
theorem cb_142_216 {X : Nat → Option zz_C} {h : zz_H} {t : cS} {s : mS} {d : Nat} {Q : zz_O → zz_H → Prop}  (hR : kR h t s) (k : ∀ {h : zz_H}, kR h t s → zz_J zp_P zt_tf zt_fd X d zm_171 0 [(0, .ref 45), (1, .int 10)] [] h (zz_after 4 Q (fun v h' => zz_J zp_P zt_tf zt_fd X (d + 1) zm_142 225 [] (v.toList ++ []) h' Q))) : zz_J zp_P zt_tf zt_fd X (d + 1) zm_142 216 [(0, .ref 49)] [] h Q := by
  refine zz_J.n 217 rfl rfl rfl ?_
  refine zz_J.g 220 rfl (hR.gv (v := .ref 45) ko_49 (by decide) rfl) rfl ?_
  refine zz_J.c 222 (.int 10) rfl rfl rfl rfl ?_
  refine zz_J.cv 225 (as := []) rfl rfl (hR.clO ko_45 (by decide) (by decide)) (by decide) (Nat.le_of_ble_eq_true rfl) (Nat.le_of_ble_eq_true rfl) rfl (Nat.le_of_ble_eq_true rfl) rfl ?_
  refine zz_J.mono (k hR) ?_
  intro o h' hE
  cases o with
  | inl v => exact zz_J.weak hE rfl trivial
  | inr q => exact hE
theorem cb_142_225 {X : Nat → Option zz_C} {h : zz_H} {t : cS} {s : mS} {d : Nat} {Q : zz_O → zz_H → Prop}  (hR : kR h t s) (k : ∀ {h : zz_H}, kR h t s → zz_J zp_P zt_tf zt_fd X d zm_142 296 [] [] h Q) : zz_J zp_P zt_tf zt_fd X d zm_142 225 [] [] h Q := by
  refine zz_J.n 296 rfl rfl rfl ?_
  exact zz_J.weak (k hR) rfl trivial
theorem cb_142_228 {X : Nat → Option zz_C} {h : zz_H} {t : cS} {s : mS} {d : Nat} {Q : zz_O → zz_H → Prop}  (hR : kR h t s) (k : ∀ {h : zz_H}, kR h t s → zz_J zp_P zt_tf zt_fd X d zm_158 0 [(0, .ref 49)] [] h (zz_after 3 Q (fun v h' => zz_J zp_P zt_tf zt_fd X (d + 1) zm_142 232 [] (v.toList ++ []) h' Q))) : zz_J zp_P zt_tf zt_fd X (d + 1) zm_142 228 [(0, .ref 49)] [] h Q := by
  refine zz_J.n 229 rfl rfl rfl ?_
  refine zz_J.cv 232 (as := []) rfl rfl (hR.clO ko_49 (by decide) (by decide)) (by decide) (Nat.le_of_ble_eq_true rfl) (Nat.le_of_ble_eq_true rfl) rfl (Nat.le_of_ble_eq_true rfl) rfl ?_
  refine zz_J.mono (k hR) ?_
  intro o h' hE
  cases o with
  | inl v => exact zz_J.weak hE rfl trivial
  | inr q => exact hE
theorem cb_142_232 {X : Nat → Option zz_C} {h : zz_H} {t : cS} {s : mS} {d : Nat} {Q : zz_O → zz_H → Prop}  (hR : kR h t s) (k : ∀ {h : zz_H}, kR h t s → zz_J zp_P zt_tf zt_fd X d zm_142 296 [] [] h Q) : zz_J zp_P zt_tf zt_fd X d zm_142 232 [] [] h Q := by
  refine zz_J.n 296 rfl rfl rfl ?_
  exact zz_J.weak (k hR) rfl trivial
theorem cb_142_235 {X : Nat → Option zz_C} {h : zz_H} {t : cS} {s : mS} {d : Nat} {Q : zz_O → zz_H → Prop} {x3 : Int32} (hR : kR h t s) (k : ∀ {h : zz_H}, kR h t s → zz_J zp_P zt_tf zt_fd X d zm_153 0 [(0, .ref 49), (1, .int x3)] [] h (zz_after 3 Q (fun v h' => zz_J zp_P zt_tf zt_fd X (d + 1) zm_142 240 [] (v.toList ++ []) h' Q))) : zz_J zp_P zt_tf zt_fd X (d + 1) zm_142 235 [(0, .ref 49), (3, .int x3)] [] h Q := by
  refine zz_J.n 236 rfl rfl rfl ?_
  refine zz_J.n 237 rfl rfl rfl ?_
  refine zz_J.cv 240 (as := []) rfl rfl (hR.clO ko_49 (by decide) (by decide)) (by decide) (Nat.le_of_ble_eq_true rfl) (Nat.le_of_ble_eq_true rfl) rfl (Nat.le_of_ble_eq_true rfl) rfl ?_
  refine zz_J.mono (k hR) ?_
  intro o h' hE
  cases o with
  | inl v => exact zz_J.weak hE rfl trivial
  | inr q => exact hE
theorem cb_142_240 {X : Nat → Option zz_C} {h : zz_H} {t : cS} {s : mS} {d : Nat} {Q : zz_O → zz_H → Prop}  (hR : kR h t s) (k : ∀ {h : zz_H}, kR h t s → zz_J zp_P zt_tf zt_fd X d zm_142 296 [] [] h Q) : zz_J zp_P zt_tf zt_fd X d zm_142 240 [] [] h Q := by
  refine zz_J.n 296 rfl rfl rfl ?_
  exact zz_J.weak (k hR) rfl trivial
theorem cb_142_243 {X : Nat → Option zz_C} {h : zz_H} {t : cS} {s : mS} {d : Nat} {Q : zz_O → zz_H → Prop} {x2 : Int32} (hR : kR h t s) (k : ∀ {h : zz_H}, kR h t s → zz_J zp_P zt_tf zt_fd X d zm_154 0 [(0, .ref 49), (1, .int x2)] [] h (zz_after 3 Q (fun v h' => zz_J zp_P zt_tf zt_fd X (d + 1) zm_142 248 [] (v.toList ++ []) h' Q))) : zz_J zp_P zt_tf zt_fd X (d + 1) zm_142 243 [(0, .ref 49), (2, .int x2)] [] h Q := by
  refine zz_J.n 244 rfl rfl rfl ?_
  refine zz_J.n 245 rfl rfl rfl ?_
  refine zz_J.cv 248 (as := []) rfl rfl (hR.clO ko_49 (by decide) (by decide)) (by decide) (Nat.le_of_ble_eq_true rfl) (Nat.le_of_ble_eq_true rfl) rfl (Nat.le_of_ble_eq_true rfl) rfl ?_
  refine zz_J.mono (k hR) ?_
  intro o h' hE
  cases o with
  | inl v => exact zz_J.weak hE rfl trivial
  | inr q => exact hE
theorem cb_142_248 {X : Nat → Option zz_C} {h : zz_H} {t : cS} {s : mS} {d : Nat} {Q : zz_O → zz_H → Prop}  (hR : kR h t s) (k : ∀ {h : zz_H}, kR h t s → zz_J zp_P zt_tf zt_fd X d zm_142 296 [] [] h Q) : zz_J zp_P zt_tf zt_fd X d zm_142 248 [] [] h Q := by
  refine zz_J.n 296 rfl rfl rfl ?_
  exact zz_J.weak (k hR) rfl trivial
theorem cb_142_251 {X : Nat → Option zz_C} {h : zz_H} {t : cS} {s : mS} {d : Nat} {Q : zz_O → zz_H → Prop} {x2 : Int32} (hR : kR h t s) (k : ∀ {h : zz_H}, kR h (jI (jI t 49 15 (if (((kI t 49 15) - 1) : Int32) < 0 then 0 else ((kI t 49 15) - 1))) 49 17 x2) s → zz_J zp_P zt_tf zt_fd X (d + 1) zm_142 296 [] [] h Q) : zz_J zp_P zt_tf zt_fd X (d + 1) zm_142 251 [(0, .ref 49), (2, .int x2)] [] h Q := by
  refine zz_J.n 252 rfl rfl rfl ?_
  refine zz_J.n 253 rfl rfl rfl ?_
  refine zz_J.g 256 rfl (hR.gv (v := .int (kI t 49 15)) ko_49 (by decide) rfl) rfl ?_
  refine zz_J.c 257 (.int 1) rfl rfl rfl rfl ?_
  refine zz_J.n 258 rfl rfl rfl ?_
  refine zz_J.c 259 (.int 0) rfl rfl rfl rfl ?_
  refine zz_J.spec 262 rfl rfl (by decide) rfl rfl rfl ?_
  obtain ⟨h1, eq1, hR⟩ := hR.pI (x := (if (((kI t 49 15) - 1) : Int32) < 0 then 0 else ((kI t 49 15) - 1))) (by decide) ko_49 (kpi_49_15 _) (Nat.le_of_ble_eq_true rfl) rfl
  refine zz_J.pv 265 rfl eq1 rfl ?_
  clear eq1
  refine zz_J.n 266 rfl rfl rfl ?_
  refine zz_J.n 267 rfl rfl rfl ?_
  obtain ⟨h1, eq1, hR⟩ := hR.pI (x := x2) (by decide) ko_49 (kpi_49_17 _) (Nat.le_of_ble_eq_true rfl) rfl
  refine zz_J.pv 270 rfl eq1 rfl ?_
  clear eq1
  refine zz_J.n 296 rfl rfl rfl ?_
  exact zz_J.weak (k hR) rfl trivial
theorem cb_142_273 {X : Nat → Option zz_C} {h : zz_H} {t : cS} {s : mS} {d : Nat} {Q : zz_O → zz_H → Prop} {x3 : Int32} (hR : kR h t s) (k : ∀ {h : zz_H}, kR h t s → zz_J zp_P zt_tf zt_fd X d zm_155 0 [(0, .ref 49), (1, .int x3)] [] h (zz_after 3 Q (fun v h' => zz_J zp_P zt_tf zt_fd X (d + 1) zm_142 278 [] (v.toList ++ []) h' Q))) : zz_J zp_P zt_tf zt_fd X (d + 1) zm_142 273 [(0, .ref 49), (3, .int x3)] [] h Q := by
  refine zz_J.n 274 rfl rfl rfl ?_
  refine zz_J.n 275 rfl rfl rfl ?_
  refine zz_J.cv 278 (as := []) rfl rfl (hR.clO ko_49 (by decide) (by decide)) (by decide) (Nat.le_of_ble_eq_true rfl) (Nat.le_of_ble_eq_true rfl) rfl (Nat.le_of_ble_eq_true rfl) rfl ?_
  refine zz_J.mono (k hR) ?_
  intro o h' hE
  cases o with
  | inl v => exact zz_J.weak hE rfl trivial
  | inr q => exact hE
theorem cb_142_278 {X : Nat → Option zz_C} {h : zz_H} {t : cS} {s : mS} {d : Nat} {Q : zz_O → zz_H → Prop}  (hR : kR h t s) (k : ∀ {h : zz_H}, kR h t s → zz_J zp_P zt_tf zt_fd X d zm_142 296 [] [] h Q) : zz_J zp_P zt_tf zt_fd X d zm_142 278 [] [] h Q := by
  refine zz_J.n 296 rfl rfl rfl ?_
  exact zz_J.weak (k hR) rfl trivial
theorem cb_142_281 {X : Nat → Option zz_C} {h : zz_H} {t : cS} {s : mS} {d : Nat} {Q : zz_O → zz_H → Prop} {x2 : Int32} {x3 : Int32} (hR : kR h t s) {w0 : Nat} (e0 : (kP t 49 16) = some w0) (e1 : w0 = 12 ∨ w0 = 21) (k : ∀ {h : zz_H}, kR h t s → zz_J zp_P zt_tf zt_fd X d zm_33 0 [(0, .ref w0), (1, .int x2), (2, .int 0)] [] h (zz_after 6 Q (fun v h' => zz_J zp_P zt_tf zt_fd X (d + 1) zm_142 292 [(3, .int x3)] (v.toList ++ [.int x2, .ref 49]) h' Q))) : zz_J zp_P zt_tf zt_fd X (d + 1) zm_142 281 [(0, .ref 49), (2, .int x2), (3, .int x3)] [] h Q := by
  refine zz_J.n 282 rfl rfl rfl ?_
  refine zz_J.n 283 rfl rfl rfl ?_
  refine zz_J.n 284 rfl rfl rfl ?_
  refine zz_J.g 287 rfl (hR.gv (v := .ref w0) ko_49 (by decide) ((congrArg (fun q => some (zz_rv q)) e0).trans rfl)) rfl ?_
  refine zz_J.n 288 rfl rfl rfl ?_
  refine zz_J.c 289 (.int 0) rfl rfl rfl rfl ?_
  refine zz_J.cv 292 (as := [.int x2, .ref 49]) rfl rfl (hR.clO (ko_P e1) (by decide) (by decide)) (by decide) (Nat.le_of_ble_eq_true rfl) (Nat.le_of_ble_eq_true rfl) rfl (Nat.le_of_ble_eq_true rfl) rfl ?_
  refine zz_J.mono (k hR) ?_
  intro o h' hE
  cases o with
  | inl v => exact zz_J.weak hE rfl ⟨rfl, trivial⟩
  | inr q => exact hE
theorem cb_142_292 {X : Nat → Option zz_C} {h : zz_H} {t : cS} {s : mS} {d : Nat} {Q : zz_O → zz_H → Prop} {x3 : Int32} {y1 : Int32} {y2 : Int32} (hR : kR h t s) (k : ∀ {h : zz_H}, kR h t s → zz_J zp_P zt_tf zt_fd X d zm_157 0 [(0, .ref 49), (1, .int y1), (2, .int y2), (3, .int x3)] [] h (zz_after 3 Q (fun v h' => zz_J zp_P zt_tf zt_fd X (d + 1) zm_142 296 [] (v.toList ++ []) h' Q))) : zz_J zp_P zt_tf zt_fd X (d + 1) zm_142 292 [(3, .int x3)] [.int y2, .int y1, .ref 49] h Q := by
  refine zz_J.n 293 rfl rfl rfl ?_
  refine zz_J.cv 296 (as := []) rfl rfl (hR.clO ko_49 (by decide) (by decide)) (by decide) (Nat.le_of_ble_eq_true rfl) (Nat.le_of_ble_eq_true rfl) rfl (Nat.le_of_ble_eq_true rfl) rfl ?_
  refine zz_J.mono (k hR) ?_
  intro o h' hE
  cases o with
  | inl v => exact zz_J.weak hE rfl trivial
  | inr q => exact hE
theorem cb_142_296 {X : Nat → Option zz_C} {h : zz_H} {t : cS} {s : mS} {d : Nat} {Q : zz_O → zz_H → Prop}  (hR : kR h t s) (k : ∀ {h : zz_H}, kR h t s → Q (.inl none) h) : zz_J zp_P zt_tf zt_fd X d zm_142 296 [] [] h Q := by
  refine zz_J.ret rfl rfl rfl ?_
  exact k hR
def cf_142_296 (N : Nat) (X : Nat → Option zz_C)  (t : cS) : kO := some (t, .inl none)
theorem cr_142_296 {X : Nat → Option zz_C} {s : mS} {N : Nat} {d : Nat} (hd : 25 ≤ d) {Q : zz_O → zz_H → Prop}  {h : zz_H} {t t' : cS} {o : kY} (hR : kR h t s) (hf : cf_142_296 N X  t = some (t', o)) (k : (∀ h', kR h' t' s → kE o Q h')) : zz_J zp_P zt_tf zt_fd X d zm_142 296 [] [] h Q := by
  unfold cf_142_296 at hf
  cases hf
  exact cb_142_296 hR  (fun {h} hR => k h hR)
def cf_142_140 (N : Nat) (X : Nat → Option zz_C)  (t : cS) : kO := cf_142_296 N X  t
theorem cr_142_140 {X : Nat → Option zz_C} {s : mS} {N : Nat} {d : Nat} (hd : 25 ≤ d) {Q : zz_O → zz_H → Prop}  {h : zz_H} {t t' : cS} {o : kY} (hR : kR h t s) (hf : cf_142_140 N X  t = some (t', o)) (k : (∀ h', kR h' t' s → kE o Q h')) : zz_J zp_P zt_tf zt_fd X d zm_142 140 [] [] h Q := by
  unfold cf_142_140 at hf
  exact cb_142_140 hR  (fun hR => cr_142_296 hd hR hf k)
def cf_142_137 (N : Nat) (X : Nat → Option zz_C) (y1 : Int64) (t : cS) : kO := ko_call 3 (cf_165 N X y1 t) (fun g1 v1 => co_v v1 (cf_142_140 N X  g1))
theorem cr_142_137 {X : Nat → Option zz_C} {s : mS} {N : Nat} {d : Nat} (hd : 25 ≤ d) {Q : zz_O → zz_H → Prop} {y1 : Int64} {h : zz_H} {t t' : cS} {o : kY} (hR : kR h t s) (hf : cf_142_137 N X y1 t = some (t', o)) (k : (∀ h', kR h' t' s → kE o Q h')) : zz_J zp_P zt_tf zt_fd X d zm_142 137 [] [.long y1, .ref 49] h Q := by
  unfold cf_142_137 at hf
  obtain ⟨d', rfl⟩ : ∃ d', d = d' + 1 := ⟨d - 1, by omega⟩
  refine cb_142_137 hR  (fun {h} hR => ?_)
  rcases ko_call_ok hf with ⟨g1, v1, er, hf⟩ | ⟨g1, er, hq⟩
  · obtain ⟨hv, hf2⟩ := co_v_ok hf
    clear hf
    have hf := hf2
    clear hf2
    subst hv
    refine cr_165 (by omega) hR er (fun h hR => ?_)
    exact cr_142_140 hd hR hf k
  · refine cr_165 (by omega) hR er (fun h hR => ?_)
    exact ko_thrown hq hR k
def cf_142_131 (N : Nat) (X : Nat → Option zz_C) (x2 : Int32) (t : cS) : kO := ko_call 1000 (cf_253 N X 0 x2 t) (fun g1 v1 => co_l v1 (fun y => cf_142_137 N X y g1))
theorem cr_142_131 {X : Nat → Option zz_C} {s : mS} {N : Nat} {d : Nat} (hd : 25 ≤ d) {Q : zz_O → zz_H → Prop} {x2 : Int32} {h : zz_H} {t t' : cS} {o : kY} (hR : kR h t s) (hf : cf_142_131 N X x2 t = some (t', o)) (k : (∀ h', kR h' t' s → kE o Q h')) : zz_J zp_P zt_tf zt_fd X d zm_142 131 [(0, .ref 49), (2, .int x2)] [] h Q := by
  unfold cf_142_131 at hf
  obtain ⟨d', rfl⟩ : ∃ d', d = d' + 1 := ⟨d - 1, by omega⟩
  refine cb_142_131 hR  (fun {h} hR => ?_)
  rcases ko_call_ok hf with ⟨g1, v1, er, hf⟩ | ⟨g1, er, hq⟩
  · obtain ⟨y, hv, hf2⟩ := co_l_ok hf
    clear hf
    have hf := hf2
    clear hf2
    subst hv
    refine cr_253 (by omega) hR er (fun h hR => ?_)
    exact cr_142_137 hd hR hf k
  · refine cr_253 (by omega) hR er (fun h hR => ?_)
    exact ko_thrown hq hR k
def cf_142_149 (N : Nat) (X : Nat → Option zz_C)  (t : cS) : kO := cf_142_296 N X  t
theorem cr_142_149 {X : Nat → Option zz_C} {s : mS} {N : Nat} {d : Nat} (hd : 25 ≤ d) {Q : zz_O → zz_H → Prop}  {h : zz_H} {t t' : cS} {o : kY} (hR : kR h t s) (hf : cf_142_149 N X  t = some (t', o)) (k : (∀ h', kR h' t' s → kE o Q h')) : zz_J zp_P zt_tf zt_fd X d zm_142 149 [] [] h Q := by
  unfold cf_142_149 at hf
  exact cb_142_149 hR  (fun hR => cr_142_296 hd hR hf k)
def cf_142_143 (N : Nat) (X : Nat → Option zz_C) (x2 : Int32) (x3 : Int32) (t : cS) : kO := ko_call 3 (cf_147 N X x2 x3 t) (fun g1 v1 => co_v v1 (cf_142_149 N X  g1))
theorem cr_142_143 {X : Nat → Option zz_C} {s : mS} {N : Nat} {d : Nat} (hd : 25 ≤ d) {Q : zz_O → zz_H → Prop} {x2 : Int32} {x3 : Int32} {h : zz_H} {t t' : cS} {o : kY} (hR : kR h t s) (hf : cf_142_143 N X x2 x3 t = some (t', o)) (k : (∀ h', kR h' t' s → kE o Q h')) : zz_J zp_P zt_tf zt_fd X d zm_142 143 [(0, .ref 49), (2, .int x2), (3, .int x3)] [] h Q := by
  unfold cf_142_143 at hf
  obtain ⟨d', rfl⟩ : ∃ d', d = d' + 1 := ⟨d - 1, by omega⟩
  refine cb_142_143 hR  (fun {h} hR => ?_)
  rcases ko_call_ok hf with ⟨g1, v1, er, hf⟩ | ⟨g1, er, hq⟩
  · obtain ⟨hv, hf2⟩ := co_v_ok hf
    clear hf
    have hf := hf2
    clear hf2
    subst hv
    refine cr_147 (by omega) hR er (fun h hR => ?_)
    exact cr_142_149 hd hR hf k
  · refine cr_147 (by omega) hR er (fun h hR => ?_)
    exact ko_thrown hq hR k
def cf_142_157 (N : Nat) (X : Nat → Option zz_C)  (t : cS) : kO := cf_142_296 N X  t
theorem cr_142_157 {X : Nat → Option zz_C} {s : mS} {N : Nat} {d : Nat} (hd : 25 ≤ d) {Q : zz_O → zz_H → Prop}  {h : zz_H} {t t' : cS} {o : kY} (hR : kR h t s) (hf : cf_142_157 N X  t = some (t', o)) (k : (∀ h', kR h' t' s → kE o Q h')) : zz_J zp_P zt_tf zt_fd X d zm_142 157 [] [] h Q := by
  unfold cf_142_157 at hf
  exact cb_142_157 hR  (fun hR => cr_142_296 hd hR hf k)
def cf_142_152 (N : Nat) (X : Nat → Option zz_C) (x2 : Int32) (t : cS) : kO := ko_call 3 (cf_148 N X x2 t) (fun g1 v1 => co_v v1 (cf_142_157 N X  g1))
theorem cr_142_152 {X : Nat → Option zz_C} {s : mS} {N : Nat} {d : Nat} (hd : 25 ≤ d) {Q : zz_O → zz_H → Prop} {x2 : Int32} {h : zz_H} {t t' : cS} {o : kY} (hR : kR h t s) (hf : cf_142_152 N X x2 t = some (t', o)) (k : (∀ h', kR h' t' s → kE o Q h')) : zz_J zp_P zt_tf zt_fd X d zm_142 152 [(0, .ref 49), (2, .int x2)] [] h Q := by
  unfold cf_142_152 at hf
  obtain ⟨d', rfl⟩ : ∃ d', d = d' + 1 := ⟨d - 1, by omega⟩
  refine cb_142_152 hR  (fun {h} hR => ?_)
  rcases ko_call_ok hf with ⟨g1, v1, er, hf⟩ | ⟨g1, er, hq⟩
  · obtain ⟨hv, hf2⟩ := co_v_ok hf
    clear hf
    have hf := hf2
    clear hf2
    subst hv
    refine cr_148 (by omega) hR er (fun h hR => ?_)
    exact cr_142_157 hd hR hf k
  · refine cr_148 (by omega) hR er (fun h hR => ?_)
    exact ko_thrown hq hR k
def cf_142_164 (N : Nat) (X : Nat → Option zz_C) (y0 : Int64) (t : cS) : kO := cf_142_296 N X  t
theorem cr_142_164 {X : Nat → Option zz_C} {s : mS} {N : Nat} {d : Nat} (hd : 25 ≤ d) {Q : zz_O → zz_H → Prop} {y0 : Int64} {h : zz_H} {t t' : cS} {o : kY} (hR : kR h t s) (hf : cf_142_164 N X y0 t = some (t', o)) (k : (∀ h', kR h' t' s → kE o Q h')) : zz_J zp_P zt_tf zt_fd X d zm_142 164 [] [.long y0] h Q := by
  unfold cf_142_164 at hf
  exact cb_142_164 hR  (fun hR => cr_142_296 hd hR hf k)
def cf_142_160 (N : Nat) (X : Nat → Option zz_C)  (t : cS) : kO := ko_call 3 (cf_166 N X  t) (fun g1 v1 => co_l v1 (fun y => cf_142_164 N X y g1))
theorem cr_142_160 {X : Nat → Option zz_C} {s : mS} {N : Nat} {d : Nat} (hd : 25 ≤ d) {Q : zz_O → zz_H → Prop}  {h : zz_H} {t t' : cS} {o : kY} (hR : kR h t s) (hf : cf_142_160 N X  t = some (t', o)) (k : (∀ h', kR h' t' s → kE o Q h')) : zz_J zp_P zt_tf zt_fd X d zm_142 160 [(0, .ref 49)] [] h Q := by
  unfold cf_142_160 at hf
  obtain ⟨d', rfl⟩ : ∃ d', d = d' + 1 := ⟨d - 1, by omega⟩
  refine cb_142_160 hR  (fun {h} hR => ?_)
  rcases ko_call_ok hf with ⟨g1, v1, er, hf⟩ | ⟨g1, er, hq⟩
  · obtain ⟨y, hv, hf2⟩ := co_l_ok hf
    clear hf
    have hf := hf2
    clear hf2
    subst hv
    refine cr_166 (by omega) hR er (fun h hR => ?_)
    exact cr_142_164 hd hR hf k
  · refine cr_166 (by omega) hR er (fun h hR => ?_)
    exact ko_thrown hq hR k
def cf_142_168 (N : Nat) (X : Nat → Option zz_C) (x2 : Int32) (t : cS) : kO := cf_142_296 N X  (jI t 49 17 x2)
theorem cr_142_168 {X : Nat → Option zz_C} {s : mS} {N : Nat} {d : Nat} (hd : 25 ≤ d) {Q : zz_O → zz_H → Prop} {x2 : Int32} {h : zz_H} {t t' : cS} {o : kY} (hR : kR h t s) (hf : cf_142_168 N X x2 t = some (t', o)) (k : (∀ h', kR h' t' s → kE o Q h')) : zz_J zp_P zt_tf zt_fd X d zm_142 168 [(0, .ref 49), (2, .int x2)] [] h Q := by
  unfold cf_142_168 at hf
  exact cb_142_168 hR  (fun hR => cr_142_296 hd hR hf k)
def cf_142_182 (N : Nat) (X : Nat → Option zz_C)  (t : cS) : kO := cf_142_296 N X  t
theorem cr_142_182 {X : Nat → Option zz_C} {s : mS} {N : Nat} {d : Nat} (hd : 25 ≤ d) {Q : zz_O → zz_H → Prop}  {h : zz_H} {t t' : cS} {o : kY} (hR : kR h t s) (hf : cf_142_182 N X  t = some (t', o)) (k : (∀ h', kR h' t' s → kE o Q h')) : zz_J zp_P zt_tf zt_fd X d zm_142 182 [] [] h Q := by
  unfold cf_142_182 at hf
  exact cb_142_182 hR  (fun hR => cr_142_296 hd hR hf k)
def cf_142_176 (N : Nat) (X : Nat → Option zz_C) (x2 : Int32) (x3 : Int32) (t : cS) : kO := ko_call 3 (cf_150 N X x2 x3 t) (fun g1 v1 => co_v v1 (cf_142_182 N X  g1))
theorem cr_142_176 {X : Nat → Option zz_C} {s : mS} {N : Nat} {d : Nat} (hd : 25 ≤ d) {Q : zz_O → zz_H → Prop} {x2 : Int32} {x3 : Int32} {h : zz_H} {t t' : cS} {o : kY} (hR : kR h t s) (hf : cf_142_176 N X x2 x3 t = some (t', o)) (k : (∀ h', kR h' t' s → kE o Q h')) : zz_J zp_P zt_tf zt_fd X d zm_142 176 [(0, .ref 49), (2, .int x2), (3, .int x3)] [] h Q := by
  unfold cf_142_176 at hf
  obtain ⟨d', rfl⟩ : ∃ d', d = d' + 1 := ⟨d - 1, by omega⟩
  refine cb_142_176 hR  (fun {h} hR => ?_)
  rcases ko_call_ok hf with ⟨g1, v1, er, hf⟩ | ⟨g1, er, hq⟩
  · obtain ⟨hv, hf2⟩ := co_v_ok hf
    clear hf
    have hf := hf2
    clear hf2
    subst hv
    refine cr_150 (by omega) hR er (fun h hR => ?_)
    exact cr_142_182 hd hR hf k
  · refine cr_150 (by omega) hR er (fun h hR => ?_)
    exact ko_thrown hq hR k
def cf_142_190 (N : Nat) (X : Nat → Option zz_C)  (t : cS) : kO := cf_142_296 N X  t
theorem cr_142_190 {X : Nat → Option zz_C} {s : mS} {N : Nat} {d : Nat} (hd : 25 ≤ d) {Q : zz_O → zz_H → Prop}  {h : zz_H} {t t' : cS} {o : kY} (hR : kR h t s) (hf : cf_142_190 N X  t = some (t', o)) (k : (∀ h', kR h' t' s → kE o Q h')) : zz_J zp_P zt_tf zt_fd X d zm_142 190 [] [] h Q := by
  unfold cf_142_190 at hf
  exact cb_142_190 hR  (fun hR => cr_142_296 hd hR hf k)
def cf_142_185 (N : Nat) (X : Nat → Option zz_C) (x3 : Int32) (t : cS) : kO := ko_call 3 (cf_151 N X x3 t) (fun g1 v1 => co_v v1 (cf_142_190 N X  g1))
theorem cr_142_185 {X : Nat → Option zz_C} {s : mS} {N : Nat} {d : Nat} (hd : 25 ≤ d) {Q : zz_O → zz_H → Prop} {x3 : Int32} {h : zz_H} {t t' : cS} {o : kY} (hR : kR h t s) (hf : cf_142_185 N X x3 t = some (t', o)) (k : (∀ h', kR h' t' s → kE o Q h')) : zz_J zp_P zt_tf zt_fd X d zm_142 185 [(0, .ref 49), (3, .int x3)] [] h Q := by
  unfold cf_142_185 at hf
  obtain ⟨d', rfl⟩ : ∃ d', d = d' + 1 := ⟨d - 1, by omega⟩
  refine cb_142_185 hR  (fun {h} hR => ?_)
  rcases ko_call_ok hf with ⟨g1, v1, er, hf⟩ | ⟨g1, er, hq⟩
  · obtain ⟨hv, hf2⟩ := co_v_ok hf
    clear hf
    have hf := hf2
    clear hf2
    subst hv
    refine cr_151 (by omega) hR er (fun h hR => ?_)
    exact cr_142_190 hd hR hf k
  · refine cr_151 (by omega) hR er (fun h hR => ?_)
    exact ko_thrown hq hR k
def cf_142_225 (N : Nat) (X : Nat → Option zz_C)  (t : cS) : kO := cf_142_296 N X  t
theorem cr_142_225 {X : Nat → Option zz_C} {s : mS} {N : Nat} {d : Nat} (hd : 25 ≤ d) {Q : zz_O → zz_H → Prop}  {h : zz_H} {t t' : cS} {o : kY} (hR : kR h t s) (hf : cf_142_225 N X  t = some (t', o)) (k : (∀ h', kR h' t' s → kE o Q h')) : zz_J zp_P zt_tf zt_fd X d zm_142 225 [] [] h Q := by
  unfold cf_142_225 at hf
  exact cb_142_225 hR  (fun hR => cr_142_296 hd hR hf k)
def cf_142_216 (N : Nat) (X : Nat → Option zz_C)  (t : cS) : kO := ko_call 4 (cf_171 N X 10 t) (fun g1 v1 => co_v v1 (cf_142_225 N X  g1))
theorem cr_142_216 {X : Nat → Option zz_C} {s : mS} {N : Nat} {d : Nat} (hd : 25 ≤ d) {Q : zz_O → zz_H → Prop}  {h : zz_H} {t t' : cS} {o : kY} (hR : kR h t s) (hf : cf_142_216 N X  t = some (t', o)) (k : (∀ h', kR h' t' s → kE o Q h')) : zz_J zp_P zt_tf zt_fd X d zm_142 216 [(0, .ref 49)] [] h Q := by
  unfold cf_142_216 at hf
  obtain ⟨d', rfl⟩ : ∃ d', d = d' + 1 := ⟨d - 1, by omega⟩
  refine cb_142_216 hR  (fun {h} hR => ?_)
  rcases ko_call_ok hf with ⟨g1, v1, er, hf⟩ | ⟨g1, er, hq⟩
  · obtain ⟨hv, hf2⟩ := co_v_ok hf
    clear hf
    have hf := hf2
    clear hf2
    subst hv
    refine cr_171 (by omega) hR er (fun h hR => ?_)
    exact cr_142_225 hd hR hf k
  · refine cr_171 (by omega) hR er (fun h hR => ?_)
    exact ko_thrown hq hR k
def cf_142_213 (N : Nat) (X : Nat → Option zz_C) (y2 : Int64) (t : cS) : kO := ko_call 4 (cf_169 N X y2 t) (fun g1 v1 => co_v v1 (cf_142_216 N X  g1))
theorem cr_142_213 {X : Nat → Option zz_C} {s : mS} {N : Nat} {d : Nat} (hd : 25 ≤ d) {Q : zz_O → zz_H → Prop} {y2 : Int64} {h : zz_H} {t t' : cS} {o : kY} (hR : kR h t s) (hf : cf_142_213 N X y2 t = some (t', o)) (k : (∀ h', kR h' t' s → kE o Q h')) : zz_J zp_P zt_tf zt_fd X d zm_142 213 [(0, .ref 49)] [.long y2, .ref 42, .ref 45] h Q := by
  unfold cf_142_213 at hf
  obtain ⟨d', rfl⟩ : ∃ d', d = d' + 1 := ⟨d - 1, by omega⟩
  refine cb_142_213 hR  (fun {h} hR => ?_)
  rcases ko_call_ok hf with ⟨g1, v1, er, hf⟩ | ⟨g1, er, hq⟩
  · obtain ⟨hv, hf2⟩ := co_v_ok hf
    clear hf
    have hf := hf2
    clear hf2
    subst hv
    refine cr_169 (by omega) hR er (fun h hR => ?_)
    exact cr_142_216 hd hR hf k
  · refine cr_169 (by omega) hR er (fun h hR => ?_)
    exact ko_thrown hq hR k
def cf_142_201 (N : Nat) (X : Nat → Option zz_C)  (t : cS) : kO := ko_call 3 (cf_166 N X  t) (fun g1 v1 => co_l v1 (fun y => cf_142_213 N X y g1))
theorem cr_142_201 {X : Nat → Option zz_C} {s : mS} {N : Nat} {d : Nat} (hd : 25 ≤ d) {Q : zz_O → zz_H → Prop}  {h : zz_H} {t t' : cS} {o : kY} (hR : kR h t s) (hf : cf_142_201 N X  t = some (t', o)) (k : (∀ h', kR h' t' s → kE o Q h')) : zz_J zp_P zt_tf zt_fd X d zm_142 201 [(0, .ref 49)] [] h Q := by
  unfold cf_142_201 at hf
  obtain ⟨d', rfl⟩ : ∃ d', d = d' + 1 := ⟨d - 1, by omega⟩
  refine cb_142_201 hR  (fun {h} hR => ?_)
  rcases ko_call_ok hf with ⟨g1, v1, er, hf⟩ | ⟨g1, er, hq⟩
  · obtain ⟨y, hv, hf2⟩ := co_l_ok hf
    clear hf
    have hf := hf2
    clear hf2
    subst hv
    refine cr_166 (by omega) hR er (fun h hR => ?_)
    exact cr_142_213 hd hR hf k
  · refine cr_166 (by omega) hR er (fun h hR => ?_)
    exact ko_thrown hq hR k
def cf_142_232 (N : Nat) (X : Nat → Option zz_C)  (t : cS) : kO := cf_142_296 N X  t
theorem cr_142_232 {X : Nat → Option zz_C} {s : mS} {N : Nat} {d : Nat} (hd : 25 ≤ d) {Q : zz_O → zz_H → Prop}  {h : zz_H} {t t' : cS} {o : kY} (hR : kR h t s) (hf : cf_142_232 N X  t = some (t', o)) (k : (∀ h', kR h' t' s → kE o Q h')) : zz_J zp_P zt_tf zt_fd X d zm_142 232 [] [] h Q := by
  unfold cf_142_232 at hf
  exact cb_142_232 hR  (fun hR => cr_142_296 hd hR hf k)
def cf_142_228 (N : Nat) (X : Nat → Option zz_C)  (t : cS) : kO := ko_call 3 (cf_158 N X  t) (fun g1 v1 => co_v v1 (cf_142_232 N X  g1))
theorem cr_142_228 {X : Nat → Option zz_C} {s : mS} {N : Nat} {d : Nat} (hd : 25 ≤ d) {Q : zz_O → zz_H → Prop}  {h : zz_H} {t t' : cS} {o : kY} (hR : kR h t s) (hf : cf_142_228 N X  t = some (t', o)) (k : (∀ h', kR h' t' s → kE o Q h')) : zz_J zp_P zt_tf zt_fd X d zm_142 228 [(0, .ref 49)] [] h Q := by
  unfold cf_142_228 at hf
  obtain ⟨d', rfl⟩ : ∃ d', d = d' + 1 := ⟨d - 1, by omega⟩
  refine cb_142_228 hR  (fun {h} hR => ?_)
  rcases ko_call_ok hf with ⟨g1, v1, er, hf⟩ | ⟨g1, er, hq⟩
  · obtain ⟨hv, hf2⟩ := co_v_ok hf
    clear hf
    have hf := hf2
    clear hf2
    subst hv
    refine cr_158 (by omega) hR er (fun h hR => ?_)
    exact cr_142_232 hd hR hf k
  · refine cr_158 (by omega) hR er (fun h hR => ?_)
    exact ko_thrown hq hR k
def cf_142_240 (N : Nat) (X : Nat → Option zz_C)  (t : cS) : kO := cf_142_296 N X  t
theorem cr_142_240 {X : Nat → Option zz_C} {s : mS} {N : Nat} {d : Nat} (hd : 25 ≤ d) {Q : zz_O → zz_H → Prop}  {h : zz_H} {t t' : cS} {o : kY} (hR : kR h t s) (hf : cf_142_240 N X  t = some (t', o)) (k : (∀ h', kR h' t' s → kE o Q h')) : zz_J zp_P zt_tf zt_fd X d zm_142 240 [] [] h Q := by
  unfold cf_142_240 at hf
  exact cb_142_240 hR  (fun hR => cr_142_296 hd hR hf k)
def cf_142_235 (N : Nat) (X : Nat → Option zz_C) (x3 : Int32) (t : cS) : kO := ko_call 3 (cf_153 N X x3 t) (fun g1 v1 => co_v v1 (cf_142_240 N X  g1))
theorem cr_142_235 {X : Nat → Option zz_C} {s : mS} {N : Nat} {d : Nat} (hd : 25 ≤ d) {Q : zz_O → zz_H → Prop} {x3 : Int32} {h : zz_H} {t t' : cS} {o : kY} (hR : kR h t s) (hf : cf_142_235 N X x3 t = some (t', o)) (k : (∀ h', kR h' t' s → kE o Q h')) : zz_J zp_P zt_tf zt_fd X d zm_142 235 [(0, .ref 49), (3, .int x3)] [] h Q := by
  unfold cf_142_235 at hf
  obtain ⟨d', rfl⟩ : ∃ d', d = d' + 1 := ⟨d - 1, by omega⟩
  refine cb_142_235 hR  (fun {h} hR => ?_)
  rcases ko_call_ok hf with ⟨g1, v1, er, hf⟩ | ⟨g1, er, hq⟩
  · obtain ⟨hv, hf2⟩ := co_v_ok hf
    clear hf
    have hf := hf2
    clear hf2
    subst hv
    refine cr_153 (by omega) hR er (fun h hR => ?_)
    exact cr_142_240 hd hR hf k
  · refine cr_153 (by omega) hR er (fun h hR => ?_)
    exact ko_thrown hq hR k
def cf_142_248 (N : Nat) (X : Nat → Option zz_C)  (t : cS) : kO := cf_142_296 N X  t
theorem cr_142_248 {X : Nat → Option zz_C} {s : mS} {N : Nat} {d : Nat} (hd : 25 ≤ d) {Q : zz_O → zz_H → Prop}  {h : zz_H} {t t' : cS} {o : kY} (hR : kR h t s) (hf : cf_142_248 N X  t = some (t', o)) (k : (∀ h', kR h' t' s → kE o Q h')) : zz_J zp_P zt_tf zt_fd X d zm_142 248 [] [] h Q := by
  unfold cf_142_248 at hf
  exact cb_142_248 hR  (fun hR => cr_142_296 hd hR hf k)
def cf_142_243 (N : Nat) (X : Nat → Option zz_C) (x2 : Int32) (t : cS) : kO := ko_call 3 (cf_154 N X x2 t) (fun g1 v1 => co_v v1 (cf_142_248 N X  g1))
theorem cr_142_243 {X : Nat → Option zz_C} {s : mS} {N : Nat} {d : Nat} (hd : 25 ≤ d) {Q : zz_O → zz_H → Prop} {x2 : Int32} {h : zz_H} {t t' : cS} {o : kY} (hR : kR h t s) (hf : cf_142_243 N X x2 t = some (t', o)) (k : (∀ h', kR h' t' s → kE o Q h')) : zz_J zp_P zt_tf zt_fd X d zm_142 243 [(0, .ref 49), (2, .int x2)] [] h Q := by
  unfold cf_142_243 at hf
  obtain ⟨d', rfl⟩ : ∃ d', d = d' + 1 := ⟨d - 1, by omega⟩
  refine cb_142_243 hR  (fun {h} hR => ?_)
  rcases ko_call_ok hf with ⟨g1, v1, er, hf⟩ | ⟨g1, er, hq⟩
  · obtain ⟨hv, hf2⟩ := co_v_ok hf
    clear hf
    have hf := hf2
    clear hf2
    subst hv
    refine cr_154 (by omega) hR er (fun h hR => ?_)
    exact cr_142_248 hd hR hf k
  · refine cr_154 (by omega) hR er (fun h hR => ?_)
    exact ko_thrown hq hR k
def cf_142_251 (N : Nat) (X : Nat → Option zz_C) (x2 : Int32) (t : cS) : kO := cf_142_296 N X  (jI (jI t 49 15 (if (((kI t 49 15) - 1) : Int32) < 0 then 0 else ((kI t 49 15) - 1))) 49 17 x2)
theorem cr_142_251 {X : Nat → Option zz_C} {s : mS} {N : Nat} {d : Nat} (hd : 25 ≤ d) {Q : zz_O → zz_H → Prop} {x2 : Int32} {h : zz_H} {t t' : cS} {o : kY} (hR : kR h t s) (hf : cf_142_251 N X x2 t = some (t', o)) (k : (∀ h', kR h' t' s → kE o Q h')) : zz_J zp_P zt_tf zt_fd X d zm_142 251 [(0, .ref 49), (2, .int x2)] [] h Q := by
  unfold cf_142_251 at hf
  obtain ⟨d', rfl⟩ : ∃ d', d = d' + 1 := ⟨d - 1, by omega⟩
  exact cb_142_251 hR  (fun hR => cr_142_296 hd hR hf k)
def cf_142_278 (N : Nat) (X : Nat → Option zz_C)  (t : cS) : kO := cf_142_296 N X  t
theorem cr_142_278 {X : Nat → Option zz_C} {s : mS} {N : Nat} {d : Nat} (hd : 25 ≤ d) {Q : zz_O → zz_H → Prop}  {h : zz_H} {t t' : cS} {o : kY} (hR : kR h t s) (hf : cf_142_278 N X  t = some (t', o)) (k : (∀ h', kR h' t' s → kE o Q h')) : zz_J zp_P zt_tf zt_fd X d zm_142 278 [] [] h Q := by
  unfold cf_142_278 at hf
  exact cb_142_278 hR  (fun hR => cr_142_296 hd hR hf k)
def cf_142_273 (N : Nat) (X : Nat → Option zz_C) (x3 : Int32) (t : cS) : kO := ko_call 3 (cf_155 N X x3 t) (fun g1 v1 => co_v v1 (cf_142_278 N X  g1))
theorem cr_142_273 {X : Nat → Option zz_C} {s : mS} {N : Nat} {d : Nat} (hd : 25 ≤ d) {Q : zz_O → zz_H → Prop} {x3 : Int32} {h : zz_H} {t t' : cS} {o : kY} (hR : kR h t s) (hf : cf_142_273 N X x3 t = some (t', o)) (k : (∀ h', kR h' t' s → kE o Q h')) : zz_J zp_P zt_tf zt_fd X d zm_142 273 [(0, .ref 49), (3, .int x3)] [] h Q := by
  unfold cf_142_273 at hf
  obtain ⟨d', rfl⟩ : ∃ d', d = d' + 1 := ⟨d - 1, by omega⟩
  refine cb_142_273 hR  (fun {h} hR => ?_)
  rcases ko_call_ok hf with ⟨g1, v1, er, hf⟩ | ⟨g1, er, hq⟩
  · obtain ⟨hv, hf2⟩ := co_v_ok hf
    clear hf
    have hf := hf2
    clear hf2
    subst hv
    refine cr_155 (by omega) hR er (fun h hR => ?_)
    exact cr_142_278 hd hR hf k
  · refine cr_155 (by omega) hR er (fun h hR => ?_)
    exact ko_thrown hq hR k
def cf_142_292 (N : Nat) (X : Nat → Option zz_C) (x3 : Int32) (y1 : Int32) (y2 : Int32) (t : cS) : kO := ko_call 3 (cf_157 N X y1 y2 x3 t) (fun g1 v1 => co_v v1 (cf_142_296 N X  g1))
theorem cr_142_292 {X : Nat → Option zz_C} {s : mS} {N : Nat} {d : Nat} (hd : 25 ≤ d) {Q : zz_O → zz_H → Prop} {x3 : Int32} {y1 : Int32} {y2 : Int32} {h : zz_H} {t t' : cS} {o : kY} (hR : kR h t s) (hf : cf_142_292 N X x3 y1 y2 t = some (t', o)) (k : (∀ h', kR h' t' s → kE o Q h')) : zz_J zp_P zt_tf zt_fd X d zm_142 292 [(3, .int x3)] [.int y2, .int y1, .ref 49] h Q := by
  unfold cf_142_292 at hf
  obtain ⟨d', rfl⟩ : ∃ d', d = d' + 1 := ⟨d - 1, by omega⟩
  refine cb_142_292 hR  (fun {h} hR => ?_)
  rcases ko_call_ok hf with ⟨g1, v1, er, hf⟩ | ⟨g1, er, hq⟩
  · obtain ⟨hv, hf2⟩ := co_v_ok hf
    clear hf
    have hf := hf2
    clear hf2
    subst hv
    refine cr_157 (by omega) hR er (fun h hR => ?_)
    exact cr_142_296 hd hR hf k
  · refine cr_157 (by omega) hR er (fun h hR => ?_)
    exact ko_thrown hq hR k
def cf_142_281 (N : Nat) (X : Nat → Option zz_C) (x2 : Int32) (x3 : Int32) (t : cS) : kO := co_b ((kP t 49 16)) (fun w0 => if w0 = 12 ∨ w0 = 21 then (ko_call 6 (cf_33 N X w0 x2 0 t) (fun g1 v1 => co_i v1 (fun y => cf_142_292 N X x3 x2 y g1))) else none)
theorem cr_142_281 {X : Nat → Option zz_C} {s : mS} {N : Nat} {d : Nat} (hd : 25 ≤ d) {Q : zz_O → zz_H → Prop} {x2 : Int32} {x3 : Int32} {h : zz_H} {t t' : cS} {o : kY} (hR : kR h t s) (hf : cf_142_281 N X x2 x3 t = some (t', o)) (k : (∀ h', kR h' t' s → kE o Q h')) : zz_J zp_P zt_tf zt_fd X d zm_142 281 [(0, .ref 49), (2, .int x2), (3, .int x3)] [] h Q := by
  unfold cf_142_281 at hf
  obtain ⟨w0, e0, hf⟩ := co_b_ok hf
  obtain ⟨e1, hf⟩ := ko_if hf
  obtain ⟨d', rfl⟩ : ∃ d', d = d' + 1 := ⟨d - 1, by omega⟩
  refine cb_142_281 hR e0 e1 (fun {h} hR => ?_)
  rcases ko_call_ok hf with ⟨g1, v1, er, hf⟩ | ⟨g1, er, hq⟩
  · obtain ⟨y, hv, hf2⟩ := co_i_ok hf
    clear hf
    have hf := hf2
    clear hf2
    subst hv
    refine cr_33 (by omega) hR er (fun h hR => ?_)
    exact cr_142_292 hd hR hf k
  · refine cr_33 (by omega) hR er (fun h hR => ?_)
    exact ko_thrown hq hR k
def cf_142_128 (N : Nat) (X : Nat → Option zz_C)  (t : cS) : kO := cf_142_296 N X  t
theorem cr_142_128 {X : Nat → Option zz_C} {s : mS} {N : Nat} {d : Nat} (hd : 25 ≤ d) {Q : zz_O → zz_H → Prop}  {h : zz_H} {t t' : cS} {o : kY} (hR : kR h t s) (hf : cf_142_128 N X  t = some (t', o)) (k : (∀ h', kR h' t' s → kE o Q h')) : zz_J zp_P zt_tf zt_fd X d zm_142 128 [] [] h Q := by
  unfold cf_142_128 at hf
  exact cb_142_128 hR  (fun hR => cr_142_296 hd hR hf k)
def cf_142_198 (N : Nat) (X : Nat → Option zz_C)  (t : cS) : kO := cf_142_296 N X  t
theorem cr_142_198 {X : Nat → Option zz_C} {s : mS} {N : Nat} {d : Nat} (hd : 25 ≤ d) {Q : zz_O → zz_H → Prop}  {h : zz_H} {t t' : cS} {o : kY} (hR : kR h t s) (hf : cf_142_198 N X  t = some (t', o)) (k : (∀ h', kR h' t' s → kE o Q h')) : zz_J zp_P zt_tf zt_fd X d zm_142 198 [] [] h Q := by
  unfold cf_142_198 at hf
  exact cb_142_198 hR  (fun hR => cr_142_296 hd hR hf k)
def cf_142_193 (N : Nat) (X : Nat → Option zz_C) (x2 : Int32) (t : cS) : kO := ko_call 3 (cf_152 N X x2 t) (fun g1 v1 => co_v v1 (cf_142_198 N X  g1))
theorem cr_142_193 {X : Nat → Option zz_C} {s : mS} {N : Nat} {d : Nat} (hd : 25 ≤ d) {Q : zz_O → zz_H → Prop} {x2 : Int32} {h : zz_H} {t t' : cS} {o : kY} (hR : kR h t s) (hf : cf_142_193 N X x2 t = some (t', o)) (k : (∀ h', kR h' t' s → kE o Q h')) : zz_J zp_P zt_tf zt_fd X d zm_142 193 [(0, .ref 49), (2, .int x2)] [] h Q := by
  unfold cf_142_193 at hf
  obtain ⟨d', rfl⟩ : ∃ d', d = d' + 1 := ⟨d - 1, by omega⟩
  refine cb_142_193 hR  (fun {h} hR => ?_)
  rcases ko_call_ok hf with ⟨g1, v1, er, hf⟩ | ⟨g1, er, hq⟩
  · obtain ⟨hv, hf2⟩ := co_v_ok hf
    clear hf
    have hf := hf2
    clear hf2
    subst hv
    refine cr_152 (by omega) hR er (fun h hR => ?_)
    exact cr_142_198 hd hR hf k
  · refine cr_152 (by omega) hR er (fun h hR => ?_)
    exact ko_thrown hq hR k
def cf_142_0 (N : Nat) (X : Nat → Option zz_C) (x1 : Int32) (x2 : Int32) (x3 : Int32) (t : cS) : kO := if (Int32.toInt x1 < 0 ∨ 27 < Int32.toInt x1) then cf_142_281 N X x2 x3 t else if x1 = 0 then cf_142_131 N X x2 t else if x1 = 1 then cf_142_143 N X x2 x3 t else if x1 = 2 then cf_142_152 N X x2 t else if x1 = 3 then cf_142_160 N X  t else if x1 = 4 then cf_142_168 N X x2 t else if x1 = 5 then cf_142_176 N X x2 x3 t else if x1 = 6 then cf_142_185 N X x3 t else if x1 = 7 then cf_142_201 N X  t else if x1 = 8 then cf_142_228 N X  t else if x1 = 9 then cf_142_235 N X x3 t else if x1 = 10 then cf_142_243 N X x2 t else if x1 = 11 then cf_142_251 N X x2 t else if x1 = 12 then cf_142_273 N X x3 t else if x1 = 13 then cf_142_281 N X x2 x3 t else if x1 = 14 then cf_142_281 N X x2 x3 t else if x1 = 15 then cf_142_281 N X x2 x3 t else if x1 = 16 then cf_142_281 N X x2 x3 t else if x1 = 17 then cf_142_281 N X x2 x3 t else if x1 = 18 then cf_142_281 N X x2 x3 t else if x1 = 19 then cf_142_281 N X x2 x3 t else if x1 = 20 then cf_142_281 N X x2 x3 t else if x1 = 21 then cf_142_281 N X x2 x3 t else if x1 = 22 then cf_142_281 N X x2 x3 t else if x1 = 23 then cf_142_281 N X x2 x3 t else if x1 = 24 then cf_142_281 N X x2 x3 t else if x1 = 25 then cf_142_281 N X x2 x3 t else if x1 = 26 then cf_142_128 N X  t else if x1 = 27 then cf_142_193 N X x2 t else none
theorem cr_142_0 {X : Nat → Option zz_C} {s : mS} {N : Nat} {d : Nat} (hd : 25 ≤ d) {Q : zz_O → zz_H → Prop} {x1 : Int32} {x2 : Int32} {x3 : Int32} {h : zz_H} {t t' : cS} {o : kY} (hR : kR h t s) (hf : cf_142_0 N X x1 x2 x3 t = some (t', o)) (k : (∀ h', kR h' t' s → kE o Q h')) : zz_J zp_P zt_tf zt_fd X d zm_142 0 [(0, .ref 49), (1, .int x1), (2, .int x2), (3, .int x3)] [] h Q := by
  unfold cf_142_0 at hf
  refine cb_142_0 hR  (fun c {h} hR => ?_) (fun c {h} hR => ?_) (fun c {h} hR => ?_) (fun c {h} hR => ?_) (fun c {h} hR => ?_) (fun c {h} hR => ?_) (fun c {h} hR => ?_) (fun c {h} hR => ?_) (fun c {h} hR => ?_) (fun c {h} hR => ?_) (fun c {h} hR => ?_) (fun c {h} hR => ?_) (fun c {h} hR => ?_) (fun c {h} hR => ?_) (fun c {h} hR => ?_) (fun c {h} hR => ?_) (fun c {h} hR => ?_) (fun c {h} hR => ?_) (fun c {h} hR => ?_) (fun c {h} hR => ?_) (fun c {h} hR => ?_) (fun c {h} hR => ?_) (fun c {h} hR => ?_) (fun c {h} hR => ?_) (fun c {h} hR => ?_) (fun c {h} hR => ?_) (fun c {h} hR => ?_) (fun c {h} hR => ?_) (fun c {h} hR => ?_)
  · rw [if_neg (by rw [c]; decide)] at hf
    rw [if_pos c] at hf
    exact cr_142_131 hd hR hf k
  · rw [if_neg (by rw [c]; decide)] at hf
    rw [if_neg (by rw [c]; decide)] at hf
    rw [if_pos c] at hf
    exact cr_142_143 hd hR hf k
  · rw [if_neg (by rw [c]; decide)] at hf
    rw [if_neg (by rw [c]; decide)] at hf
    rw [if_neg (by rw [c]; decide)] at hf
    rw [if_pos c] at hf
    exact cr_142_152 hd hR hf k
  · rw [if_neg (by rw [c]; decide)] at hf
    rw [if_neg (by rw [c]; decide)] at hf
    rw [if_neg (by rw [c]; decide)] at hf
    rw [if_neg (by rw [c]; decide)] at hf
    rw [if_pos c] at hf
    exact cr_142_160 hd hR hf k
  · rw [if_neg (by rw [c]; decide)] at hf
    rw [if_neg (by rw [c]; decide)] at hf
    rw [if_neg (by rw [c]; decide)] at hf
    rw [if_neg (by rw [c]; decide)] at hf
    rw [if_neg (by rw [c]; decide)] at hf
    rw [if_pos c] at hf
    exact cr_142_168 hd hR hf k
  · rw [if_neg (by rw [c]; decide)] at hf
    rw [if_neg (by rw [c]; decide)] at hf
    rw [if_neg (by rw [c]; decide)] at hf
    rw [if_neg (by rw [c]; decide)] at hf
    rw [if_neg (by rw [c]; decide)] at hf
    rw [if_neg (by rw [c]; decide)] at hf
    rw [if_pos c] at hf
    exact cr_142_176 hd hR hf k
  · rw [if_neg (by rw [c]; decide)] at hf
    rw [if_neg (by rw [c]; decide)] at hf
    rw [if_neg (by rw [c]; decide)] at hf
    rw [if_neg (by rw [c]; decide)] at hf
    rw [if_neg (by rw [c]; decide)] at hf
    rw [if_neg (by rw [c]; decide)] at hf
    rw [if_neg (by rw [c]; decide)] at hf
    rw [if_pos c] at hf
    exact cr_142_185 hd hR hf k
  · rw [if_neg (by rw [c]; decide)] at hf
    rw [if_neg (by rw [c]; decide)] at hf
    rw [if_neg (by rw [c]; decide)] at hf
    rw [if_neg (by rw [c]; decide)] at hf
    rw [if_neg (by rw [c]; decide)] at hf
    rw [if_neg (by rw [c]; decide)] at hf
    rw [if_neg (by rw [c]; decide)] at hf
    rw [if_neg (by rw [c]; decide)] at hf
    rw [if_pos c] at hf
    exact cr_142_201 hd hR hf k
  · rw [if_neg (by rw [c]; decide)] at hf
    rw [if_neg (by rw [c]; decide)] at hf
    rw [if_neg (by rw [c]; decide)] at hf
    rw [if_neg (by rw [c]; decide)] at hf
    rw [if_neg (by rw [c]; decide)] at hf
    rw [if_neg (by rw [c]; decide)] at hf
    rw [if_neg (by rw [c]; decide)] at hf
    rw [if_neg (by rw [c]; decide)] at hf
    rw [if_neg (by rw [c]; decide)] at hf
    rw [if_pos c] at hf
    exact cr_142_228 hd hR hf k
  · rw [if_neg (by rw [c]; decide)] at hf
    rw [if_neg (by rw [c]; decide)] at hf
    rw [if_neg (by rw [c]; decide)] at hf
    rw [if_neg (by rw [c]; decide)] at hf
    rw [if_neg (by rw [c]; decide)] at hf
    rw [if_neg (by rw [c]; decide)] at hf
    rw [if_neg (by rw [c]; decide)] at hf
    rw [if_neg (by rw [c]; decide)] at hf
    rw [if_neg (by rw [c]; decide)] at hf
    rw [if_neg (by rw [c]; decide)] at hf
    rw [if_pos c] at hf
    exact cr_142_235 hd hR hf k
  · rw [if_neg (by rw [c]; decide)] at hf
    rw [if_neg (by rw [c]; decide)] at hf
    rw [if_neg (by rw [c]; decide)] at hf
    rw [if_neg (by rw [c]; decide)] at hf
    rw [if_neg (by rw [c]; decide)] at hf
    rw [if_neg (by rw [c]; decide)] at hf
    rw [if_neg (by rw [c]; decide)] at hf
    rw [if_neg (by rw [c]; decide)] at hf
    rw [if_neg (by rw [c]; decide)] at hf
    rw [if_neg (by rw [c]; decide)] at hf
    rw [if_neg (by rw [c]; decide)] at hf
    rw [if_pos c] at hf
    exact cr_142_243 hd hR hf k
  · rw [if_neg (by rw [c]; decide)] at hf
    rw [if_neg (by rw [c]; decide)] at hf
    rw [if_neg (by rw [c]; decide)] at hf
    rw [if_neg (by rw [c]; decide)] at hf
    rw [if_neg (by rw [c]; decide)] at hf
    rw [if_neg (by rw [c]; decide)] at hf
    rw [if_neg (by rw [c]; decide)] at hf
    rw [if_neg (by rw [c]; decide)] at hf
    rw [if_neg (by rw [c]; decide)] at hf
    rw [if_neg (by rw [c]; decide)] at hf
    rw [if_neg (by rw [c]; decide)] at hf
    rw [if_neg (by rw [c]; decide)] at hf
    rw [if_pos c] at hf
    exact cr_142_251 hd hR hf k
  · rw [if_neg (by rw [c]; decide)] at hf
    rw [if_neg (by rw [c]; decide)] at hf
    rw [if_neg (by rw [c]; decide)] at hf
    rw [if_neg (by rw [c]; decide)] at hf
    rw [if_neg (by rw [c]; decide)] at hf
    rw [if_neg (by rw [c]; decide)] at hf
    rw [if_neg (by rw [c]; decide)] at hf
    rw [if_neg (by rw [c]; decide)] at hf
    rw [if_neg (by rw [c]; decide)] at hf
    rw [if_neg (by rw [c]; decide)] at hf
    rw [if_neg (by rw [c]; decide)] at hf
    rw [if_neg (by rw [c]; decide)] at hf
    rw [if_neg (by rw [c]; decide)] at hf
    rw [if_pos c] at hf
    exact cr_142_273 hd hR hf k
  · rw [if_neg (by rw [c]; decide)] at hf
    rw [if_neg (by rw [c]; decide)] at hf
    rw [if_neg (by rw [c]; decide)] at hf
    rw [if_neg (by rw [c]; decide)] at hf
    rw [if_neg (by rw [c]; decide)] at hf
    rw [if_neg (by rw [c]; decide)] at hf
    rw [if_neg (by rw [c]; decide)] at hf
    rw [if_neg (by rw [c]; decide)] at hf
    rw [if_neg (by rw [c]; decide)] at hf
    rw [if_neg (by rw [c]; decide)] at hf
    rw [if_neg (by rw [c]; decide)] at hf
    rw [if_neg (by rw [c]; decide)] at hf
    rw [if_neg (by rw [c]; decide)] at hf
    rw [if_neg (by rw [c]; decide)] at hf
    rw [if_pos c] at hf
    exact cr_142_281 hd hR hf k
  · rw [if_neg (by rw [c]; decide)] at hf
    rw [if_neg (by rw [c]; decide)] at hf
    rw [if_neg (by rw [c]; decide)] at hf
    rw [if_neg (by rw [c]; decide)] at hf
    rw [if_neg (by rw [c]; decide)] at hf
    rw [if_neg (by rw [c]; decide)] at hf
    rw [if_neg (by rw [c]; decide)] at hf
    rw [if_neg (by rw [c]; decide)] at hf
    rw [if_neg (by rw [c]; decide)] at hf
    rw [if_neg (by rw [c]; decide)] at hf
    rw [if_neg (by rw [c]; decide)] at hf
    rw [if_neg (by rw [c]; decide)] at hf
    rw [if_neg (by rw [c]; decide)] at hf
    rw [if_neg (by rw [c]; decide)] at hf
    rw [if_neg (by rw [c]; decide)] at hf
    rw [if_pos c] at hf
    exact cr_142_281 hd hR hf k
  · rw [if_neg (by rw [c]; decide)] at hf
    rw [if_neg (by rw [c]; decide)] at hf
    rw [if_neg (by rw [c]; decide)] at hf
    rw [if_neg (by rw [c]; decide)] at hf
    rw [if_neg (by rw [c]; decide)] at hf
    rw [if_neg (by rw [c]; decide)] at hf
    rw [if_neg (by rw [c]; decide)] at hf
    rw [if_neg (by rw [c]; decide)] at hf
    rw [if_neg (by rw [c]; decide)] at hf
    rw [if_neg (by rw [c]; decide)] at hf
    rw [if_neg (by rw [c]; decide)] at hf
    rw [if_neg (by rw [c]; decide)] at hf
    rw [if_neg (by rw [c]; decide)] at hf
    rw [if_neg (by rw [c]; decide)] at hf
    rw [if_neg (by rw [c]; decide)] at hf
    rw [if_neg (by rw [c]; decide)] at hf
    rw [if_pos c] at hf
    exact cr_142_281 hd hR hf k
  · rw [if_neg (by rw [c]; decide)] at hf
    rw [if_neg (by rw [c]; decide)] at hf
    rw [if_neg (by rw [c]; decide)] at hf
    rw [if_neg (by rw [c]; decide)] at hf
    rw [if_neg (by rw [c]; decide)] at hf
    rw [if_neg (by rw [c]; decide)] at hf
    rw [if_neg (by rw [c]; decide)] at hf
    rw [if_neg (by rw [c]; decide)] at hf
    rw [if_neg (by rw [c]; decide)] at hf
    rw [if_neg (by rw [c]; decide)] at hf
    rw [if_neg (by rw [c]; decide)] at hf
    rw [if_neg (by rw [c]; decide)] at hf
    rw [if_neg (by rw [c]; decide)] at hf
    rw [if_neg (by rw [c]; decide)] at hf
    rw [if_neg (by rw [c]; decide)] at hf
    rw [if_neg (by rw [c]; decide)] at hf
    rw [if_neg (by rw [c]; decide)] at hf
    rw [if_pos c] at hf
    exact cr_142_281 hd hR hf k
  · rw [if_neg (by rw [c]; decide)] at hf
    rw [if_neg (by rw [c]; decide)] at hf
    rw [if_neg (by rw [c]; decide)] at hf
    rw [if_neg (by rw [c]; decide)] at hf
    rw [if_neg (by rw [c]; decide)] at hf
    rw [if_neg (by rw [c]; decide)] at hf
    rw [if_neg (by rw [c]; decide)] at hf
    rw [if_neg (by rw [c]; decide)] at hf
    rw [if_neg (by rw [c]; decide)] at hf
    rw [if_neg (by rw [c]; decide)] at hf
    rw [if_neg (by rw [c]; decide)] at hf
    rw [if_neg (by rw [c]; decide)] at hf
    rw [if_neg (by rw [c]; decide)] at hf
    rw [if_neg (by rw [c]; decide)] at hf
    rw [if_neg (by rw [c]; decide)] at hf
    rw [if_neg (by rw [c]; decide)] at hf
    rw [if_neg (by rw [c]; decide)] at hf
    rw [if_neg (by rw [c]; decide)] at hf
    rw [if_pos c] at hf
    exact cr_142_281 hd hR hf k
  · rw [if_neg (by rw [c]; decide)] at hf
    rw [if_neg (by rw [c]; decide)] at hf
    rw [if_neg (by rw [c]; decide)] at hf
    rw [if_neg (by rw [c]; decide)] at hf
    rw [if_neg (by rw [c]; decide)] at hf
    rw [if_neg (by rw [c]; decide)] at hf
    rw [if_neg (by rw [c]; decide)] at hf
    rw [if_neg (by rw [c]; decide)] at hf
    rw [if_neg (by rw [c]; decide)] at hf
    rw [if_neg (by rw [c]; decide)] at hf
    rw [if_neg (by rw [c]; decide)] at hf
    rw [if_neg (by rw [c]; decide)] at hf
    rw [if_neg (by rw [c]; decide)] at hf
    rw [if_neg (by rw [c]; decide)] at hf
    rw [if_neg (by rw [c]; decide)] at hf
    rw [if_neg (by rw [c]; decide)] at hf
    rw [if_neg (by rw [c]; decide)] at hf
    rw [if_neg (by rw [c]; decide)] at hf
    rw [if_neg (by rw [c]; decide)] at hf
    rw [if_pos c] at hf
    exact cr_142_281 hd hR hf k
  · rw [if_neg (by rw [c]; decide)] at hf
    rw [if_neg (by rw [c]; decide)] at hf
    rw [if_neg (by rw [c]; decide)] at hf
    rw [if_neg (by rw [c]; decide)] at hf
    rw [if_neg (by rw [c]; decide)] at hf
    rw [if_neg (by rw [c]; decide)] at hf
    rw [if_neg (by rw [c]; decide)] at hf
    rw [if_neg (by rw [c]; decide)] at hf
    rw [if_neg (by rw [c]; decide)] at hf
    rw [if_neg (by rw [c]; decide)] at hf
    rw [if_neg (by rw [c]; decide)] at hf
    rw [if_neg (by rw [c]; decide)] at hf
    rw [if_neg (by rw [c]; decide)] at hf
    rw [if_neg (by rw [c]; decide)] at hf
    rw [if_neg (by rw [c]; decide)] at hf
    rw [if_neg (by rw [c]; decide)] at hf
    rw [if_neg (by rw [c]; decide)] at hf
    rw [if_neg (by rw [c]; decide)] at hf
    rw [if_neg (by rw [c]; decide)] at hf
    rw [if_neg (by rw [c]; decide)] at hf
    rw [if_pos c] at hf
    exact cr_142_281 hd hR hf k
  · rw [if_neg (by rw [c]; decide)] at hf
    rw [if_neg (by rw [c]; decide)] at hf
    rw [if_neg (by rw [c]; decide)] at hf
    rw [if_neg (by rw [c]; decide)] at hf
    rw [if_neg (by rw [c]; decide)] at hf
    rw [if_neg (by rw [c]; decide)] at hf
    rw [if_neg (by rw [c]; decide)] at hf
    rw [if_neg (by rw [c]; decide)] at hf
    rw [if_neg (by rw [c]; decide)] at hf
    rw [if_neg (by rw [c]; decide)] at hf
    rw [if_neg (by rw [c]; decide)] at hf
    rw [if_neg (by rw [c]; decide)] at hf
    rw [if_neg (by rw [c]; decide)] at hf
    rw [if_neg (by rw [c]; decide)] at hf
    rw [if_neg (by rw [c]; decide)] at hf
    rw [if_neg (by rw [c]; decide)] at hf
    rw [if_neg (by rw [c]; decide)] at hf
    rw [if_neg (by rw [c]; decide)] at hf
    rw [if_neg (by rw [c]; decide)] at hf
    rw [if_neg (by rw [c]; decide)] at hf
    rw [if_neg (by rw [c]; decide)] at hf
    rw [if_pos c] at hf
    exact cr_142_281 hd hR hf k
  · rw [if_neg (by rw [c]; decide)] at hf
    rw [if_neg (by rw [c]; decide)] at hf
    rw [if_neg (by rw [c]; decide)] at hf
    rw [if_neg (by rw [c]; decide)] at hf
    rw [if_neg (by rw [c]; decide)] at hf
    rw [if_neg (by rw [c]; decide)] at hf
    rw [if_neg (by rw [c]; decide)] at hf
    rw [if_neg (by rw [c]; decide)] at hf
    rw [if_neg (by rw [c]; decide)] at hf
    rw [if_neg (by rw [c]; decide)] at hf
    rw [if_neg (by rw [c]; decide)] at hf
    rw [if_neg (by rw [c]; decide)] at hf
    rw [if_neg (by rw [c]; decide)] at hf
    rw [if_neg (by rw [c]; decide)] at hf
    rw [if_neg (by rw [c]; decide)] at hf
    rw [if_neg (by rw [c]; decide)] at hf
    rw [if_neg (by rw [c]; decide)] at hf
    rw [if_neg (by rw [c]; decide)] at hf
    rw [if_neg (by rw [c]; decide)] at hf
    rw [if_neg (by rw [c]; decide)] at hf
    rw [if_neg (by rw [c]; decide)] at hf
    rw [if_neg (by rw [c]; decide)] at hf
    rw [if_pos c] at hf
    exact cr_142_281 hd hR hf k
  · rw [if_neg (by rw [c]; decide)] at hf
    rw [if_neg (by rw [c]; decide)] at hf
    rw [if_neg (by rw [c]; decide)] at hf
    rw [if_neg (by rw [c]; decide)] at hf
    rw [if_neg (by rw [c]; decide)] at hf
    rw [if_neg (by rw [c]; decide)] at hf
    rw [if_neg (by rw [c]; decide)] at hf
    rw [if_neg (by rw [c]; decide)] at hf
    rw [if_neg (by rw [c]; decide)] at hf
    rw [if_neg (by rw [c]; decide)] at hf
    rw [if_neg (by rw [c]; decide)] at hf
    rw [if_neg (by rw [c]; decide)] at hf
    rw [if_neg (by rw [c]; decide)] at hf
    rw [if_neg (by rw [c]; decide)] at hf
    rw [if_neg (by rw [c]; decide)] at hf
    rw [if_neg (by rw [c]; decide)] at hf
    rw [if_neg (by rw [c]; decide)] at hf
    rw [if_neg (by rw [c]; decide)] at hf
    rw [if_neg (by rw [c]; decide)] at hf
    rw [if_neg (by rw [c]; decide)] at hf
    rw [if_neg (by rw [c]; decide)] at hf
    rw [if_neg (by rw [c]; decide)] at hf
    rw [if_neg (by rw [c]; decide)] at hf
    rw [if_pos c] at hf
    exact cr_142_281 hd hR hf k
  · rw [if_neg (by rw [c]; decide)] at hf
    rw [if_neg (by rw [c]; decide)] at hf
    rw [if_neg (by rw [c]; decide)] at hf
    rw [if_neg (by rw [c]; decide)] at hf
    rw [if_neg (by rw [c]; decide)] at hf
    rw [if_neg (by rw [c]; decide)] at hf
    rw [if_neg (by rw [c]; decide)] at hf
    rw [if_neg (by rw [c]; decide)] at hf
    rw [if_neg (by rw [c]; decide)] at hf
    rw [if_neg (by rw [c]; decide)] at hf
    rw [if_neg (by rw [c]; decide)] at hf
    rw [if_neg (by rw [c]; decide)] at hf
    rw [if_neg (by rw [c]; decide)] at hf
    rw [if_neg (by rw [c]; decide)] at hf
    rw [if_neg (by rw [c]; decide)] at hf
    rw [if_neg (by rw [c]; decide)] at hf
    rw [if_neg (by rw [c]; decide)] at hf
    rw [if_neg (by rw [c]; decide)] at hf
    rw [if_neg (by rw [c]; decide)] at hf
    rw [if_neg (by rw [c]; decide)] at hf
    rw [if_neg (by rw [c]; decide)] at hf
    rw [if_neg (by rw [c]; decide)] at hf
    rw [if_neg (by rw [c]; decide)] at hf
    rw [if_neg (by rw [c]; decide)] at hf
    rw [if_pos c] at hf
    exact cr_142_281 hd hR hf k
  · rw [if_neg (by rw [c]; decide)] at hf
    rw [if_neg (by rw [c]; decide)] at hf
    rw [if_neg (by rw [c]; decide)] at hf
    rw [if_neg (by rw [c]; decide)] at hf
    rw [if_neg (by rw [c]; decide)] at hf
    rw [if_neg (by rw [c]; decide)] at hf
    rw [if_neg (by rw [c]; decide)] at hf
    rw [if_neg (by rw [c]; decide)] at hf
    rw [if_neg (by rw [c]; decide)] at hf
    rw [if_neg (by rw [c]; decide)] at hf
    rw [if_neg (by rw [c]; decide)] at hf
    rw [if_neg (by rw [c]; decide)] at hf
    rw [if_neg (by rw [c]; decide)] at hf
    rw [if_neg (by rw [c]; decide)] at hf
    rw [if_neg (by rw [c]; decide)] at hf
    rw [if_neg (by rw [c]; decide)] at hf
    rw [if_neg (by rw [c]; decide)] at hf
    rw [if_neg (by rw [c]; decide)] at hf
    rw [if_neg (by rw [c]; decide)] at hf
    rw [if_neg (by rw [c]; decide)] at hf
    rw [if_neg (by rw [c]; decide)] at hf
    rw [if_neg (by rw [c]; decide)] at hf
    rw [if_neg (by rw [c]; decide)] at hf
    rw [if_neg (by rw [c]; decide)] at hf
    rw [if_neg (by rw [c]; decide)] at hf
    rw [if_pos c] at hf
    exact cr_142_281 hd hR hf k
  · rw [if_neg (by rw [c]; decide)] at hf
    rw [if_neg (by rw [c]; decide)] at hf
    rw [if_neg (by rw [c]; decide)] at hf
    rw [if_neg (by rw [c]; decide)] at hf
    rw [if_neg (by rw [c]; decide)] at hf
    rw [if_neg (by rw [c]; decide)] at hf
    rw [if_neg (by rw [c]; decide)] at hf
    rw [if_neg (by rw [c]; decide)] at hf
    rw [if_neg (by rw [c]; decide)] at hf
    rw [if_neg (by rw [c]; decide)] at hf
    rw [if_neg (by rw [c]; decide)] at hf
    rw [if_neg (by rw [c]; decide)] at hf
    rw [if_neg (by rw [c]; decide)] at hf
    rw [if_neg (by rw [c]; decide)] at hf
    rw [if_neg (by rw [c]; decide)] at hf
    rw [if_neg (by rw [c]; decide)] at hf
    rw [if_neg (by rw [c]; decide)] at hf
    rw [if_neg (by rw [c]; decide)] at hf
    rw [if_neg (by rw [c]; decide)] at hf
    rw [if_neg (by rw [c]; decide)] at hf
    rw [if_neg (by rw [c]; decide)] at hf
    rw [if_neg (by rw [c]; decide)] at hf
    rw [if_neg (by rw [c]; decide)] at hf
    rw [if_neg (by rw [c]; decide)] at hf
    rw [if_neg (by rw [c]; decide)] at hf
    rw [if_neg (by rw [c]; decide)] at hf
    rw [if_pos c] at hf
    exact cr_142_281 hd hR hf k
  · rw [if_neg (by rw [c]; decide)] at hf
    rw [if_neg (by rw [c]; decide)] at hf
    rw [if_neg (by rw [c]; decide)] at hf
    rw [if_neg (by rw [c]; decide)] at hf
    rw [if_neg (by rw [c]; decide)] at hf
    rw [if_neg (by rw [c]; decide)] at hf
    rw [if_neg (by rw [c]; decide)] at hf
    rw [if_neg (by rw [c]; decide)] at hf
    rw [if_neg (by rw [c]; decide)] at hf
    rw [if_neg (by rw [c]; decide)] at hf
    rw [if_neg (by rw [c]; decide)] at hf
    rw [if_neg (by rw [c]; decide)] at hf
    rw [if_neg (by rw [c]; decide)] at hf
    rw [if_neg (by rw [c]; decide)] at hf
    rw [if_neg (by rw [c]; decide)] at hf
    rw [if_neg (by rw [c]; decide)] at hf
    rw [if_neg (by rw [c]; decide)] at hf
    rw [if_neg (by rw [c]; decide)] at hf
    rw [if_neg (by rw [c]; decide)] at hf
    rw [if_neg (by rw [c]; decide)] at hf
    rw [if_neg (by rw [c]; decide)] at hf
    rw [if_neg (by rw [c]; decide)] at hf
    rw [if_neg (by rw [c]; decide)] at hf
    rw [if_neg (by rw [c]; decide)] at hf
    rw [if_neg (by rw [c]; decide)] at hf
    rw [if_neg (by rw [c]; decide)] at hf
    rw [if_neg (by rw [c]; decide)] at hf
    rw [if_pos c] at hf
    exact cr_142_128 hd hR hf k
  · rw [if_neg (by rw [c]; decide)] at hf
    rw [if_neg (by rw [c]; decide)] at hf
    rw [if_neg (by rw [c]; decide)] at hf
    rw [if_neg (by rw [c]; decide)] at hf
    rw [if_neg (by rw [c]; decide)] at hf
    rw [if_neg (by rw [c]; decide)] at hf
    rw [if_neg (by rw [c]; decide)] at hf
    rw [if_neg (by rw [c]; decide)] at hf
    rw [if_neg (by rw [c]; decide)] at hf
    rw [if_neg (by rw [c]; decide)] at hf
    rw [if_neg (by rw [c]; decide)] at hf
    rw [if_neg (by rw [c]; decide)] at hf
    rw [if_neg (by rw [c]; decide)] at hf
    rw [if_neg (by rw [c]; decide)] at hf
    rw [if_neg (by rw [c]; decide)] at hf
    rw [if_neg (by rw [c]; decide)] at hf
    rw [if_neg (by rw [c]; decide)] at hf
    rw [if_neg (by rw [c]; decide)] at hf
    rw [if_neg (by rw [c]; decide)] at hf
    rw [if_neg (by rw [c]; decide)] at hf
    rw [if_neg (by rw [c]; decide)] at hf
    rw [if_neg (by rw [c]; decide)] at hf
    rw [if_neg (by rw [c]; decide)] at hf
    rw [if_neg (by rw [c]; decide)] at hf
    rw [if_neg (by rw [c]; decide)] at hf
    rw [if_neg (by rw [c]; decide)] at hf
    rw [if_neg (by rw [c]; decide)] at hf
    rw [if_neg (by rw [c]; decide)] at hf
    rw [if_pos c] at hf
    exact cr_142_193 hd hR hf k
  · rw [if_pos c] at hf
    exact cr_142_281 hd hR hf k
/-- move -/
def cf_142 (N : Nat) (X : Nat → Option zz_C) (x1 : Int32) (x2 : Int32) (x3 : Int32) (t : cS) : kO := cf_142_0 N X x1 x2 x3 t
theorem cr_142 {X : Nat → Option zz_C} {s : mS} {N : Nat} {d : Nat} (hd : 25 ≤ d) {Q : zz_O → zz_H → Prop} {x1 : Int32} {x2 : Int32} {x3 : Int32} {h : zz_H} {t t' : cS} {o : kY} (hR : kR h t s) (hf : cf_142 N X x1 x2 x3 t = some (t', o)) (k : ∀ h', kR h' t' s → kE o Q h') : zz_J zp_P zt_tf zt_fd X d zm_142 0 [(0, .ref 49), (1, .int x1), (2, .int x2), (3, .int x3)] [] h Q := by
  unfold cf_142 at hf
  exact zz_J.weak (cr_142_0 hd hR hf k) rfl ⟨rfl, rfl, rfl, rfl, trivial⟩
/-! yX2_forget ()V -/
theorem cb_121_0 {X : Nat → Option zz_C} {h : zz_H} {t : cS} {s : mS} {d : Nat} {Q : zz_O → zz_H → Prop}  (hR : kR h t s) (k : ∀ {h : zz_H}, kR h (jI t 42 3 0) s → Q (.inl none) h) : zz_J zp_P zt_tf zt_fd X d zm_121 0 [(0, .ref 42)] [] h Q := by
  refine zz_J.n 1 rfl rfl rfl ?_
  refine zz_J.c 2 (.int 0) rfl rfl rfl rfl ?_
  obtain ⟨h1, eq1, hR⟩ := hR.pI (x := (0 : Int32)) (by decide) ko_42 (kpi_42_3 _) (Nat.le_of_ble_eq_true rfl) rfl
  refine zz_J.pv 5 rfl eq1 rfl ?_
  clear eq1
  refine zz_J.ret rfl rfl rfl ?_
  exact k hR
def cf_121_0 (N : Nat) (X : Nat → Option zz_C)  (t : cS) : kO := some ((jI t 42 3 0), .inl none)
theorem cr_121_0 {X : Nat → Option zz_C} {s : mS} {N : Nat} {d : Nat} (hd : 0 ≤ d) {Q : zz_O → zz_H → Prop}  {h : zz_H} {t t' : cS} {o : kY} (hR : kR h t s) (hf : cf_121_0 N X  t = some (t', o)) (k : (∀ h', kR h' t' s → kE o Q h')) : zz_J zp_P zt_tf zt_fd X d zm_121 0 [(0, .ref 42)] [] h Q := by
  unfold cf_121_0 at hf
  cases hf
  exact cb_121_0 hR  (fun {h} hR => k h hR)
/-- forget -/
def cf_121 (N : Nat) (X : Nat → Option zz_C)  (t : cS) : kO := cf_121_0 N X  t
theorem cr_121 {X : Nat → Option zz_C} {s : mS} {N : Nat} {d : Nat} (hd : 0 ≤ d) {Q : zz_O → zz_H → Prop}  {h : zz_H} {t t' : cS} {o : kY} (hR : kR h t s) (hf : cf_121 N X  t = some (t', o)) (k : ∀ h', kR h' t' s → kE o Q h') : zz_J zp_P zt_tf zt_fd X d zm_121 0 [(0, .ref 42)] [] h Q := by
  unfold cf_121 at hf
  exact zz_J.weak (cr_121_0 hd hR hf k) rfl ⟨rfl, trivial⟩
/-! yX2_bulkOf (J)I -/
theorem cb_134_0 {X : Nat → Option zz_C} {h : zz_H} {t : cS} {s : mS} {d : Nat} {Q : zz_O → zz_H → Prop} {x1 : Int64} (hR : kR h t s) (k1 : (Int64.toInt32 (x1 >>> (Int32.toInt64 32 &&& 63))) < 1 → (∀ {h : zz_H}, kR h t s → zz_J zp_P zt_tf zt_fd X d zm_134 34 [] [] h Q)) (k2 : ¬ (Int64.toInt32 (x1 >>> (Int32.toInt64 32 &&& 63))) < 1 → (∀ {h : zz_H}, kR h t s → zz_J zp_P zt_tf zt_fd X d zm_134 15 [(0, .ref 42), (3, .int (Int64.toInt32 (x1 >>> (Int32.toInt64 32 &&& 63)))), (4, .int (Int64.toInt32 x1))] [] h Q)) : zz_J zp_P zt_tf zt_fd X d zm_134 0 [(0, .ref 42), (1, .long x1)] [] h Q := by
  refine zz_J.n 1 rfl rfl rfl ?_
  refine zz_J.c 3 (.int 32) rfl rfl rfl rfl ?_
  refine zz_J.n 4 rfl rfl rfl ?_
  refine zz_J.n 5 rfl rfl rfl ?_
  refine zz_J.n 6 rfl rfl rfl ?_
  refine zz_J.n 7 rfl rfl rfl ?_
  refine zz_J.n 8 rfl rfl rfl ?_
  refine zz_J.n 10 rfl rfl rfl ?_
  refine zz_J.n 11 rfl rfl rfl ?_
  refine zz_J.c 12 (.int 1) rfl rfl rfl rfl ?_
  refine zz_J.b2 34 15 (A := (Int64.toInt32 (x1 >>> (Int32.toInt64 32 &&& 63))) < 1) rfl rfl (by decide) rfl rfl (fun c => ?_) (fun c => ?_)
  · exact zz_J.weak (k1 c hR) rfl trivial
  · exact zz_J.weak (k2 c hR) rfl ⟨rfl, rfl, rfl, trivial⟩
theorem cb_134_15 {X : Nat → Option zz_C} {h : zz_H} {t : cS} {s : mS} {d : Nat} {Q : zz_O → zz_H → Prop} {x3 : Int32} {x4 : Int32} (hR : kR h t s) (k1 : 3 < x3 → (∀ {h : zz_H}, kR h t s → zz_J zp_P zt_tf zt_fd X d zm_134 34 [] [] h Q)) (k2 : ¬ 3 < x3 → (∀ {h : zz_H}, kR h t s → zz_J zp_P zt_tf zt_fd X d zm_134 20 [(0, .ref 42), (3, .int x3), (4, .int x4)] [] h Q)) : zz_J zp_P zt_tf zt_fd X d zm_134 15 [(0, .ref 42), (3, .int x3), (4, .int x4)] [] h Q := by
  refine zz_J.n 16 rfl rfl rfl ?_
  refine zz_J.c 17 (.int 3) rfl rfl rfl rfl ?_
  refine zz_J.b2 34 20 (A := 3 < x3) rfl rfl (by decide) rfl rfl (fun c => ?_) (fun c => ?_)
  · exact zz_J.weak (k1 c hR) rfl trivial
  · exact zz_J.weak (k2 c hR) rfl ⟨rfl, rfl, rfl, trivial⟩
theorem cb_134_20 {X : Nat → Option zz_C} {h : zz_H} {t : cS} {s : mS} {d : Nat} {Q : zz_O → zz_H → Prop} {x3 : Int32} {x4 : Int32} (hR : kR h t s) (k1 : x4 < 0 → (∀ {h : zz_H}, kR h t s → zz_J zp_P zt_tf zt_fd X d zm_134 34 [] [] h Q)) (k2 : ¬ x4 < 0 → (∀ {h : zz_H}, kR h t s → zz_J zp_P zt_tf zt_fd X d zm_134 25 [(0, .ref 42), (3, .int x3), (4, .int x4)] [] h Q)) : zz_J zp_P zt_tf zt_fd X d zm_134 20 [(0, .ref 42), (3, .int x3), (4, .int x4)] [] h Q := by
  refine zz_J.n 22 rfl rfl rfl ?_
  refine zz_J.b1 34 25 (A := x4 < 0) rfl rfl (by decide) rfl rfl (fun c => ?_) (fun c => ?_)
  · exact zz_J.weak (k1 c hR) rfl trivial
  · exact zz_J.weak (k2 c hR) rfl ⟨rfl, rfl, rfl, trivial⟩
theorem cb_134_25 {X : Nat → Option zz_C} {h : zz_H} {t : cS} {s : mS} {d : Nat} {Q : zz_O → zz_H → Prop} {x3 : Int32} {x4 : Int32} (hR : kR h t s) (k1 : x4 < (kI t 42 1) → (∀ {h : zz_H}, kR h t s → zz_J zp_P zt_tf zt_fd X d zm_134 36 [(0, .ref 42), (3, .int x3), (4, .int x4)] [] h Q)) (k2 : ¬ x4 < (kI t 42 1) → (∀ {h : zz_H}, kR h t s → zz_J zp_P zt_tf zt_fd X d zm_134 34 [] [] h Q)) : zz_J zp_P zt_tf zt_fd X d zm_134 25 [(0, .ref 42), (3, .int x3), (4, .int x4)] [] h Q := by
  refine zz_J.n 27 rfl rfl rfl ?_
  refine zz_J.n 28 rfl rfl rfl ?_
  refine zz_J.g 31 rfl (hR.gv (v := .int (kI t 42 1)) ko_42 (by decide) rfl) rfl ?_
  refine zz_J.b2 36 34 (A := x4 < (kI t 42 1)) rfl rfl (by decide) rfl rfl (fun c => ?_) (fun c => ?_)
  · exact zz_J.weak (k1 c hR) rfl ⟨rfl, rfl, rfl, trivial⟩
  · exact zz_J.weak (k2 c hR) rfl trivial
theorem cb_134_34 {X : Nat → Option zz_C} {h : zz_H} {t : cS} {s : mS} {d : Nat} {Q : zz_O → zz_H → Prop}  (hR : kR h t s) (k : ∀ {h : zz_H}, kR h t s → Q (.inl (some (.int 1))) h) : zz_J zp_P zt_tf zt_fd X d zm_134 34 [] [] h Q := by
  refine zz_J.c 35 (.int 1) rfl rfl rfl rfl ?_
  refine zz_J.ret rfl rfl rfl ?_
  exact k hR
theorem cb_134_36 {X : Nat → Option zz_C} {h : zz_H} {t : cS} {s : mS} {d : Nat} {Q : zz_O → zz_H → Prop} {x3 : Int32} {x4 : Int32} (hR : kR h t s) (k1 : x3 = 1 → (∀ {h : zz_H}, kR h t s → zz_J zp_P zt_tf zt_fd X d zm_134 52 [(0, .ref 42), (3, .int x3), (4, .int x4)] [] h Q)) (k2 : ¬ x3 = 1 → (∀ {h : zz_H}, kR h t s → zz_J zp_P zt_tf zt_fd X d zm_134 41 [(0, .ref 42), (3, .int x3), (4, .int x4)] [] h Q)) : zz_J zp_P zt_tf zt_fd X d zm_134 36 [(0, .ref 42), (3, .int x3), (4, .int x4)] [] h Q := by
  refine zz_J.n 37 rfl rfl rfl ?_
  refine zz_J.c 38 (.int 1) rfl rfl rfl rfl ?_
  refine zz_J.b2 52 41 (A := x3 = 1) rfl rfl (by decide) rfl rfl (fun c => ?_) (fun c => ?_)
  · exact zz_J.weak (k1 c hR) rfl ⟨rfl, rfl, rfl, trivial⟩
  · exact zz_J.weak (k2 c hR) rfl ⟨rfl, rfl, rfl, trivial⟩
theorem cb_134_41 {X : Nat → Option zz_C} {h : zz_H} {t : cS} {s : mS} {d : Nat} {Q : zz_O → zz_H → Prop} {x3 : Int32} {x4 : Int32} (hR : kR h t s) (k1 : (x4 + 1) < (kI t 42 1) → (∀ {h : zz_H}, kR h t s → zz_J zp_P zt_tf zt_fd X d zm_134 56 [(0, .ref 42), (3, .int x3), (4, .int x4)] [] h Q)) (k2 : ¬ (x4 + 1) < (kI t 42 1) → (∀ {h : zz_H}, kR h t s → zz_J zp_P zt_tf zt_fd X d zm_134 52 [(0, .ref 42), (3, .int x3), (4, .int x4)] [] h Q)) : zz_J zp_P zt_tf zt_fd X d zm_134 41 [(0, .ref 42), (3, .int x3), (4, .int x4)] [] h Q := by
  refine zz_J.n 43 rfl rfl rfl ?_
  refine zz_J.c 44 (.int 1) rfl rfl rfl rfl ?_
  refine zz_J.n 45 rfl rfl rfl ?_
  refine zz_J.n 46 rfl rfl rfl ?_
  refine zz_J.g 49 rfl (hR.gv (v := .int (kI t 42 1)) ko_42 (by decide) rfl) rfl ?_
  refine zz_J.b2 56 52 (A := (x4 + 1) < (kI t 42 1)) rfl rfl (by decide) rfl rfl (fun c => ?_) (fun c => ?_)
  · exact zz_J.weak (k1 c hR) rfl ⟨rfl, rfl, rfl, trivial⟩
  · exact zz_J.weak (k2 c hR) rfl ⟨rfl, rfl, rfl, trivial⟩
theorem cb_134_52 {X : Nat → Option zz_C} {h : zz_H} {t : cS} {s : mS} {d : Nat} {Q : zz_O → zz_H → Prop} {x3 : Int32} {x4 : Int32} (hR : kR h t s) (k : ∀ {h : zz_H}, kR h t s → zz_J zp_P zt_tf zt_fd X d zm_134 66 [(0, .ref 42), (3, .int x3), (4, .int x4)] [.int 0] h Q) : zz_J zp_P zt_tf zt_fd X d zm_134 52 [(0, .ref 42), (3, .int x3), (4, .int x4)] [] h Q := by
  refine zz_J.c 53 (.int 0) rfl rfl rfl rfl ?_
  refine zz_J.n 66 rfl rfl rfl ?_
  exact zz_J.weak (k hR) rfl ⟨rfl, rfl, rfl, trivial⟩
theorem cb_134_56 {X : Nat → Option zz_C} {h : zz_H} {t : cS} {s : mS} {d : Nat} {Q : zz_O → zz_H → Prop} {x3 : Int32} {x4 : Int32} (hR : kR h t s) (e0 : ¬ ((x4 + 1) < 0 ∨ (kB t 43).1 ≤ (Int32.toNatClampNeg (x4 + 1)))) (k : ∀ {h : zz_H}, kR h t s → zz_J zp_P zt_tf zt_fd X d zm_134 66 [(0, .ref 42), (3, .int x3), (4, .int x4)] [.int (Int64.toInt32 ((kB t 43).2 (Int32.toNatClampNeg (x4 + 1))))] h Q) : zz_J zp_P zt_tf zt_fd X d zm_134 56 [(0, .ref 42), (3, .int x3), (4, .int x4)] [] h Q := by
  refine zz_J.n 57 rfl rfl rfl ?_
  refine zz_J.g 60 rfl (hR.gv (v := .ref (kD t 43)) ko_42 (by decide) rfl) rfl ?_
  refine zz_J.n 62 rfl rfl rfl ?_
  refine zz_J.c 63 (.int 1) rfl rfl rfl rfl ?_
  refine zz_J.n 64 rfl rfl rfl ?_
  refine zz_J.al 65 rfl (hR.al (w := ((kB t 43).2 (Int32.toNatClampNeg (x4 + 1)))) ka_43 rfl e0 rfl) rfl ?_
  refine zz_J.n 66 rfl rfl rfl ?_
  exact zz_J.weak (k hR) rfl ⟨rfl, rfl, rfl, trivial⟩
theorem cb_134_66 {X : Nat → Option zz_C} {h : zz_H} {t : cS} {s : mS} {d : Nat} {Q : zz_O → zz_H → Prop} {x3 : Int32} {x4 : Int32} {y0 : Int32} (hR : kR h t s) (k1 : ¬ x3 = 3 → (∀ {h : zz_H}, kR h t s → zz_J zp_P zt_tf zt_fd X d zm_134 78 [(0, .ref 42), (4, .int x4), (5, .int y0)] [] h Q)) (k2 : ¬ ¬ x3 = 3 → (∀ {h : zz_H}, kR h t s → zz_J zp_P zt_tf zt_fd X d zm_134 73 [(5, .int y0)] [] h Q)) : zz_J zp_P zt_tf zt_fd X d zm_134 66 [(0, .ref 42), (3, .int x3), (4, .int x4)] [.int y0] h Q := by
  refine zz_J.n 68 rfl rfl rfl ?_
  refine zz_J.n 69 rfl rfl rfl ?_
  refine zz_J.c 70 (.int 3) rfl rfl rfl rfl ?_
  refine zz_J.b2 78 73 (A := ¬ x3 = 3) rfl (zz_cond_ne _ _) (by decide) rfl rfl (fun c => ?_) (fun c => ?_)
  · exact zz_J.weak (k1 c hR) rfl ⟨rfl, rfl, rfl, trivial⟩
  · exact zz_J.weak (k2 c hR) rfl ⟨rfl, trivial⟩
theorem cb_134_73 {X : Nat → Option zz_C} {h : zz_H} {t : cS} {s : mS} {d : Nat} {Q : zz_O → zz_H → Prop} {x5 : Int32} (hR : kR h t s) (k : ∀ {h : zz_H}, kR h t s → zz_J zp_P zt_tf zt_fd X d zm_134 91 [] [.int x5] h Q) : zz_J zp_P zt_tf zt_fd X d zm_134 73 [(5, .int x5)] [] h Q := by
  refine zz_J.n 75 rfl rfl rfl ?_
  refine zz_J.n 91 rfl rfl rfl ?_
  exact zz_J.weak (k hR) rfl trivial
theorem cb_134_78 {X : Nat → Option zz_C} {h : zz_H} {t : cS} {s : mS} {d : Nat} {Q : zz_O → zz_H → Prop} {x4 : Int32} {x5 : Int32} (hR : kR h t s) (e0 : ¬ (x4 < 0 ∨ (kB t 43).1 ≤ (Int32.toNatClampNeg x4))) (k : ∀ {h : zz_H}, kR h t s → zz_J zp_P zt_tf zt_fd X d zm_134 91 [] [.int ((1 + (Int64.toInt32 ((kB t 43).2 (Int32.toNatClampNeg x4)))) + x5)] h Q) : zz_J zp_P zt_tf zt_fd X d zm_134 78 [(0, .ref 42), (4, .int x4), (5, .int x5)] [] h Q := by
  refine zz_J.c 79 (.int 1) rfl rfl rfl rfl ?_
  refine zz_J.n 80 rfl rfl rfl ?_
  refine zz_J.g 83 rfl (hR.gv (v := .ref (kD t 43)) ko_42 (by decide) rfl) rfl ?_
  refine zz_J.n 85 rfl rfl rfl ?_
  refine zz_J.al 86 rfl (hR.al (w := ((kB t 43).2 (Int32.toNatClampNeg x4))) ka_43 rfl e0 rfl) rfl ?_
  refine zz_J.n 87 rfl rfl rfl ?_
  refine zz_J.n 88 rfl rfl rfl ?_
  refine zz_J.n 90 rfl rfl rfl ?_
  refine zz_J.n 91 rfl rfl rfl ?_
  exact zz_J.weak (k hR) rfl trivial
theorem cb_134_91 {X : Nat → Option zz_C} {h : zz_H} {t : cS} {s : mS} {d : Nat} {Q : zz_O → zz_H → Prop} {y0 : Int32} (hR : kR h t s) (k : ∀ {h : zz_H}, kR h t s → Q (.inl (some (.int y0))) h) : zz_J zp_P zt_tf zt_fd X d zm_134 91 [] [.int y0] h Q := by
  refine zz_J.ret rfl rfl rfl ?_
  exact k hR
def cf_134_34 (N : Nat) (X : Nat → Option zz_C)  (t : cS) : kO := some (t, .inl (some (.int 1)))
theorem cr_134_34 {X : Nat → Option zz_C} {s : mS} {N : Nat} {d : Nat} (hd : 0 ≤ d) {Q : zz_O → zz_H → Prop}  {h : zz_H} {t t' : cS} {o : kY} (hR : kR h t s) (hf : cf_134_34 N X  t = some (t', o)) (k : (∀ h', kR h' t' s → kE o Q h')) : zz_J zp_P zt_tf zt_fd X d zm_134 34 [] [] h Q := by
  unfold cf_134_34 at hf
  cases hf
  exact cb_134_34 hR  (fun {h} hR => k h hR)
def cf_134_91 (N : Nat) (X : Nat → Option zz_C) (y0 : Int32) (t : cS) : kO := some (t, .inl (some (.int y0)))
theorem cr_134_91 {X : Nat → Option zz_C} {s : mS} {N : Nat} {d : Nat} (hd : 0 ≤ d) {Q : zz_O → zz_H → Prop} {y0 : Int32} {h : zz_H} {t t' : cS} {o : kY} (hR : kR h t s) (hf : cf_134_91 N X y0 t = some (t', o)) (k : (∀ h', kR h' t' s → kE o Q h')) : zz_J zp_P zt_tf zt_fd X d zm_134 91 [] [.int y0] h Q := by
  unfold cf_134_91 at hf
  cases hf
  exact cb_134_91 hR  (fun {h} hR => k h hR)
def cf_134_78 (N : Nat) (X : Nat → Option zz_C) (x4 : Int32) (x5 : Int32) (t : cS) : kO := if ¬ (x4 < 0 ∨ (kB t 43).1 ≤ (Int32.toNatClampNeg x4)) then (cf_134_91 N X ((1 + (Int64.toInt32 ((kB t 43).2 (Int32.toNatClampNeg x4)))) + x5) t) else none
theorem cr_134_78 {X : Nat → Option zz_C} {s : mS} {N : Nat} {d : Nat} (hd : 0 ≤ d) {Q : zz_O → zz_H → Prop} {x4 : Int32} {x5 : Int32} {h : zz_H} {t t' : cS} {o : kY} (hR : kR h t s) (hf : cf_134_78 N X x4 x5 t = some (t', o)) (k : (∀ h', kR h' t' s → kE o Q h')) : zz_J zp_P zt_tf zt_fd X d zm_134 78 [(0, .ref 42), (4, .int x4), (5, .int x5)] [] h Q := by
  unfold cf_134_78 at hf
  obtain ⟨e0, hf⟩ := ko_if hf
  exact cb_134_78 hR e0 (fun hR => cr_134_91 hd hR hf k)
def cf_134_73 (N : Nat) (X : Nat → Option zz_C) (x5 : Int32) (t : cS) : kO := cf_134_91 N X x5 t
theorem cr_134_73 {X : Nat → Option zz_C} {s : mS} {N : Nat} {d : Nat} (hd : 0 ≤ d) {Q : zz_O → zz_H → Prop} {x5 : Int32} {h : zz_H} {t t' : cS} {o : kY} (hR : kR h t s) (hf : cf_134_73 N X x5 t = some (t', o)) (k : (∀ h', kR h' t' s → kE o Q h')) : zz_J zp_P zt_tf zt_fd X d zm_134 73 [(5, .int x5)] [] h Q := by
  unfold cf_134_73 at hf
  exact cb_134_73 hR  (fun hR => cr_134_91 hd hR hf k)
def cf_134_66 (N : Nat) (X : Nat → Option zz_C) (x3 : Int32) (x4 : Int32) (y0 : Int32) (t : cS) : kO := if ¬ x3 = 3 then cf_134_78 N X x4 y0 t else cf_134_73 N X y0 t
theorem cr_134_66 {X : Nat → Option zz_C} {s : mS} {N : Nat} {d : Nat} (hd : 0 ≤ d) {Q : zz_O → zz_H → Prop} {x3 : Int32} {x4 : Int32} {y0 : Int32} {h : zz_H} {t t' : cS} {o : kY} (hR : kR h t s) (hf : cf_134_66 N X x3 x4 y0 t = some (t', o)) (k : (∀ h', kR h' t' s → kE o Q h')) : zz_J zp_P zt_tf zt_fd X d zm_134 66 [(0, .ref 42), (3, .int x3), (4, .int x4)] [.int y0] h Q := by
  unfold cf_134_66 at hf
  refine cb_134_66 hR  (fun c {h} hR => ?_) (fun c {h} hR => ?_)
  · rw [if_pos c] at hf
    exact cr_134_78 hd hR hf k
  · rw [if_neg c] at hf
    exact cr_134_73 hd hR hf k
def cf_134_52 (N : Nat) (X : Nat → Option zz_C) (x3 : Int32) (x4 : Int32) (t : cS) : kO := cf_134_66 N X x3 x4 0 t
theorem cr_134_52 {X : Nat → Option zz_C} {s : mS} {N : Nat} {d : Nat} (hd : 0 ≤ d) {Q : zz_O → zz_H → Prop} {x3 : Int32} {x4 : Int32} {h : zz_H} {t t' : cS} {o : kY} (hR : kR h t s) (hf : cf_134_52 N X x3 x4 t = some (t', o)) (k : (∀ h', kR h' t' s → kE o Q h')) : zz_J zp_P zt_tf zt_fd X d zm_134 52 [(0, .ref 42), (3, .int x3), (4, .int x4)] [] h Q := by
  unfold cf_134_52 at hf
  exact cb_134_52 hR  (fun hR => cr_134_66 hd hR hf k)
def cf_134_56 (N : Nat) (X : Nat → Option zz_C) (x3 : Int32) (x4 : Int32) (t : cS) : kO := if ¬ ((x4 + 1) < 0 ∨ (kB t 43).1 ≤ (Int32.toNatClampNeg (x4 + 1))) then (cf_134_66 N X x3 x4 (Int64.toInt32 ((kB t 43).2 (Int32.toNatClampNeg (x4 + 1)))) t) else none
theorem cr_134_56 {X : Nat → Option zz_C} {s : mS} {N : Nat} {d : Nat} (hd : 0 ≤ d) {Q : zz_O → zz_H → Prop} {x3 : Int32} {x4 : Int32} {h : zz_H} {t t' : cS} {o : kY} (hR : kR h t s) (hf : cf_134_56 N X x3 x4 t = some (t', o)) (k : (∀ h', kR h' t' s → kE o Q h')) : zz_J zp_P zt_tf zt_fd X d zm_134 56 [(0, .ref 42), (3, .int x3), (4, .int x4)] [] h Q := by
  unfold cf_134_56 at hf
  obtain ⟨e0, hf⟩ := ko_if hf
  exact cb_134_56 hR e0 (fun hR => cr_134_66 hd hR hf k)
def cf_134_41 (N : Nat) (X : Nat → Option zz_C) (x3 : Int32) (x4 : Int32) (t : cS) : kO := if (x4 + 1) < (kI t 42 1) then cf_134_56 N X x3 x4 t else cf_134_52 N X x3 x4 t
theorem cr_134_41 {X : Nat → Option zz_C} {s : mS} {N : Nat} {d : Nat} (hd : 0 ≤ d) {Q : zz_O → zz_H → Prop} {x3 : Int32} {x4 : Int32} {h : zz_H} {t t' : cS} {o : kY} (hR : kR h t s) (hf : cf_134_41 N X x3 x4 t = some (t', o)) (k : (∀ h', kR h' t' s → kE o Q h')) : zz_J zp_P zt_tf zt_fd X d zm_134 41 [(0, .ref 42), (3, .int x3), (4, .int x4)] [] h Q := by
  unfold cf_134_41 at hf
  refine cb_134_41 hR  (fun c {h} hR => ?_) (fun c {h} hR => ?_)
  · rw [if_pos c] at hf
    exact cr_134_56 hd hR hf k
  · rw [if_neg c] at hf
    exact cr_134_52 hd hR hf k
def cf_134_36 (N : Nat) (X : Nat → Option zz_C) (x3 : Int32) (x4 : Int32) (t : cS) : kO := if x3 = 1 then cf_134_52 N X x3 x4 t else cf_134_41 N X x3 x4 t
theorem cr_134_36 {X : Nat → Option zz_C} {s : mS} {N : Nat} {d : Nat} (hd : 0 ≤ d) {Q : zz_O → zz_H → Prop} {x3 : Int32} {x4 : Int32} {h : zz_H} {t t' : cS} {o : kY} (hR : kR h t s) (hf : cf_134_36 N X x3 x4 t = some (t', o)) (k : (∀ h', kR h' t' s → kE o Q h')) : zz_J zp_P zt_tf zt_fd X d zm_134 36 [(0, .ref 42), (3, .int x3), (4, .int x4)] [] h Q := by
  unfold cf_134_36 at hf
  refine cb_134_36 hR  (fun c {h} hR => ?_) (fun c {h} hR => ?_)
  · rw [if_pos c] at hf
    exact cr_134_52 hd hR hf k
  · rw [if_neg c] at hf
    exact cr_134_41 hd hR hf k
def cf_134_25 (N : Nat) (X : Nat → Option zz_C) (x3 : Int32) (x4 : Int32) (t : cS) : kO := if x4 < (kI t 42 1) then cf_134_36 N X x3 x4 t else cf_134_34 N X  t
theorem cr_134_25 {X : Nat → Option zz_C} {s : mS} {N : Nat} {d : Nat} (hd : 0 ≤ d) {Q : zz_O → zz_H → Prop} {x3 : Int32} {x4 : Int32} {h : zz_H} {t t' : cS} {o : kY} (hR : kR h t s) (hf : cf_134_25 N X x3 x4 t = some (t', o)) (k : (∀ h', kR h' t' s → kE o Q h')) : zz_J zp_P zt_tf zt_fd X d zm_134 25 [(0, .ref 42), (3, .int x3), (4, .int x4)] [] h Q := by
  unfold cf_134_25 at hf
  refine cb_134_25 hR  (fun c {h} hR => ?_) (fun c {h} hR => ?_)
  · rw [if_pos c] at hf
    exact cr_134_36 hd hR hf k
  · rw [if_neg c] at hf
    exact cr_134_34 hd hR hf k
def cf_134_20 (N : Nat) (X : Nat → Option zz_C) (x3 : Int32) (x4 : Int32) (t : cS) : kO := if x4 < 0 then cf_134_34 N X  t else cf_134_25 N X x3 x4 t
theorem cr_134_20 {X : Nat → Option zz_C} {s : mS} {N : Nat} {d : Nat} (hd : 0 ≤ d) {Q : zz_O → zz_H → Prop} {x3 : Int32} {x4 : Int32} {h : zz_H} {t t' : cS} {o : kY} (hR : kR h t s) (hf : cf_134_20 N X x3 x4 t = some (t', o)) (k : (∀ h', kR h' t' s → kE o Q h')) : zz_J zp_P zt_tf zt_fd X d zm_134 20 [(0, .ref 42), (3, .int x3), (4, .int x4)] [] h Q := by
  unfold cf_134_20 at hf
  refine cb_134_20 hR  (fun c {h} hR => ?_) (fun c {h} hR => ?_)
  · rw [if_pos c] at hf
    exact cr_134_34 hd hR hf k
  · rw [if_neg c] at hf
    exact cr_134_25 hd hR hf k
def cf_134_15 (N : Nat) (X : Nat → Option zz_C) (x3 : Int32) (x4 : Int32) (t : cS) : kO := if 3 < x3 then cf_134_34 N X  t else cf_134_20 N X x3 x4 t
theorem cr_134_15 {X : Nat → Option zz_C} {s : mS} {N : Nat} {d : Nat} (hd : 0 ≤ d) {Q : zz_O → zz_H → Prop} {x3 : Int32} {x4 : Int32} {h : zz_H} {t t' : cS} {o : kY} (hR : kR h t s) (hf : cf_134_15 N X x3 x4 t = some (t', o)) (k : (∀ h', kR h' t' s → kE o Q h')) : zz_J zp_P zt_tf zt_fd X d zm_134 15 [(0, .ref 42), (3, .int x3), (4, .int x4)] [] h Q := by
  unfold cf_134_15 at hf
  refine cb_134_15 hR  (fun c {h} hR => ?_) (fun c {h} hR => ?_)
  · rw [if_pos c] at hf
    exact cr_134_34 hd hR hf k
  · rw [if_neg c] at hf
    exact cr_134_20 hd hR hf k
def cf_134_0 (N : Nat) (X : Nat → Option zz_C) (x1 : Int64) (t : cS) : kO := if (Int64.toInt32 (x1 >>> (Int32.toInt64 32 &&& 63))) < 1 then cf_134_34 N X  t else cf_134_15 N X (Int64.toInt32 (x1 >>> (Int32.toInt64 32 &&& 63))) (Int64.toInt32 x1) t
theorem cr_134_0 {X : Nat → Option zz_C} {s : mS} {N : Nat} {d : Nat} (hd : 0 ≤ d) {Q : zz_O → zz_H → Prop} {x1 : Int64} {h : zz_H} {t t' : cS} {o : kY} (hR : kR h t s) (hf : cf_134_0 N X x1 t = some (t', o)) (k : (∀ h', kR h' t' s → kE o Q h')) : zz_J zp_P zt_tf zt_fd X d zm_134 0 [(0, .ref 42), (1, .long x1)] [] h Q := by
  unfold cf_134_0 at hf
  refine cb_134_0 hR  (fun c {h} hR => ?_) (fun c {h} hR => ?_)
  · rw [if_pos c] at hf
    exact cr_134_34 hd hR hf k
  · rw [if_neg c] at hf
    exact cr_134_15 hd hR hf k
/-- bulkOf -/
def cf_134 (N : Nat) (X : Nat → Option zz_C) (x1 : Int64) (t : cS) : kO := cf_134_0 N X x1 t
theorem cr_134 {X : Nat → Option zz_C} {s : mS} {N : Nat} {d : Nat} (hd : 0 ≤ d) {Q : zz_O → zz_H → Prop} {x1 : Int64} {h : zz_H} {t t' : cS} {o : kY} (hR : kR h t s) (hf : cf_134 N X x1 t = some (t', o)) (k : ∀ h', kR h' t' s → kE o Q h') : zz_J zp_P zt_tf zt_fd X d zm_134 0 [(0, .ref 42), (1, .long x1)] [] h Q := by
  unfold cf_134 at hf
  exact zz_J.weak (cr_134_0 hd hR hf k) rfl ⟨rfl, rfl, trivial⟩
/-! yX2_depthOf (J)I -/
theorem cb_135_0 {X : Nat → Option zz_C} {h : zz_H} {t : cS} {s : mS} {d : Nat} {Q : zz_O → zz_H → Prop} {x1 : Int64} (hR : kR h t s) (k1 : ¬ (lg_cmp (x1 >>> (Int32.toInt64 32 &&& 63)) 3) = 0 → (∀ {h : zz_H}, kR h t s → zz_J zp_P zt_tf zt_fd X d zm_135 38 [] [] h Q)) (k2 : ¬ ¬ (lg_cmp (x1 >>> (Int32.toInt64 32 &&& 63)) 3) = 0 → (∀ {h : zz_H}, kR h t s → zz_J zp_P zt_tf zt_fd X d zm_135 16 [(0, .ref 42), (3, .int ((Int64.toInt32 x1) + 2))] [] h Q)) : zz_J zp_P zt_tf zt_fd X d zm_135 0 [(0, .ref 42), (1, .long x1)] [] h Q := by
  refine zz_J.n 1 rfl rfl rfl ?_
  refine zz_J.n 2 rfl rfl rfl ?_
  refine zz_J.c 3 (.int 2) rfl rfl rfl rfl ?_
  refine zz_J.n 4 rfl rfl rfl ?_
  refine zz_J.n 5 rfl rfl rfl ?_
  refine zz_J.n 6 rfl rfl rfl ?_
  refine zz_J.c 8 (.int 32) rfl rfl rfl rfl ?_
  refine zz_J.n 9 rfl rfl rfl ?_
  refine zz_J.c 12 (.long 3) rfl rfl rfl rfl ?_
  refine zz_J.n 13 rfl rfl rfl ?_
  refine zz_J.b1 38 16 (A := ¬ (lg_cmp (x1 >>> (Int32.toInt64 32 &&& 63)) 3) = 0) rfl (zz_cond_ne _ _) (by decide) rfl rfl (fun c => ?_) (fun c => ?_)
  · exact zz_J.weak (k1 c hR) rfl trivial
  · exact zz_J.weak (k2 c hR) rfl ⟨rfl, rfl, trivial⟩
theorem cb_135_16 {X : Nat → Option zz_C} {h : zz_H} {t : cS} {s : mS} {d : Nat} {Q : zz_O → zz_H → Prop} {x3 : Int32} (hR : kR h t s) (k1 : x3 < 0 → (∀ {h : zz_H}, kR h t s → zz_J zp_P zt_tf zt_fd X d zm_135 38 [] [] h Q)) (k2 : ¬ x3 < 0 → (∀ {h : zz_H}, kR h t s → zz_J zp_P zt_tf zt_fd X d zm_135 20 [(0, .ref 42), (3, .int x3)] [] h Q)) : zz_J zp_P zt_tf zt_fd X d zm_135 16 [(0, .ref 42), (3, .int x3)] [] h Q := by
  refine zz_J.n 17 rfl rfl rfl ?_
  refine zz_J.b1 38 20 (A := x3 < 0) rfl rfl (by decide) rfl rfl (fun c => ?_) (fun c => ?_)
  · exact zz_J.weak (k1 c hR) rfl trivial
  · exact zz_J.weak (k2 c hR) rfl ⟨rfl, rfl, trivial⟩
theorem cb_135_20 {X : Nat → Option zz_C} {h : zz_H} {t : cS} {s : mS} {d : Nat} {Q : zz_O → zz_H → Prop} {x3 : Int32} (hR : kR h t s) (k1 : (kI t 42 1) ≤ x3 → (∀ {h : zz_H}, kR h t s → zz_J zp_P zt_tf zt_fd X d zm_135 38 [] [] h Q)) (k2 : ¬ (kI t 42 1) ≤ x3 → (∀ {h : zz_H}, kR h t s → zz_J zp_P zt_tf zt_fd X d zm_135 28 [(0, .ref 42), (3, .int x3)] [] h Q)) : zz_J zp_P zt_tf zt_fd X d zm_135 20 [(0, .ref 42), (3, .int x3)] [] h Q := by
  refine zz_J.n 21 rfl rfl rfl ?_
  refine zz_J.n 22 rfl rfl rfl ?_
  refine zz_J.g 25 rfl (hR.gv (v := .int (kI t 42 1)) ko_42 (by decide) rfl) rfl ?_
  refine zz_J.b2 38 28 (A := (kI t 42 1) ≤ x3) rfl rfl (by decide) rfl rfl (fun c => ?_) (fun c => ?_)
  · exact zz_J.weak (k1 c hR) rfl trivial
  · exact zz_J.weak (k2 c hR) rfl ⟨rfl, rfl, trivial⟩
theorem cb_135_28 {X : Nat → Option zz_C} {h : zz_H} {t : cS} {s : mS} {d : Nat} {Q : zz_O → zz_H → Prop} {x3 : Int32} (hR : kR h t s) (e0 : ¬ (x3 < 0 ∨ (kB t 43).1 ≤ (Int32.toNatClampNeg x3))) (k : ∀ {h : zz_H}, kR h t s → zz_J zp_P zt_tf zt_fd X d zm_135 39 [] [.int (Int64.toInt32 ((kB t 43).2 (Int32.toNatClampNeg x3)))] h Q) : zz_J zp_P zt_tf zt_fd X d zm_135 28 [(0, .ref 42), (3, .int x3)] [] h Q := by
  refine zz_J.n 29 rfl rfl rfl ?_
  refine zz_J.g 32 rfl (hR.gv (v := .ref (kD t 43)) ko_42 (by decide) rfl) rfl ?_
  refine zz_J.n 33 rfl rfl rfl ?_
  refine zz_J.al 34 rfl (hR.al (w := ((kB t 43).2 (Int32.toNatClampNeg x3))) ka_43 rfl e0 rfl) rfl ?_
  refine zz_J.n 35 rfl rfl rfl ?_
  refine zz_J.n 39 rfl rfl rfl ?_
  exact zz_J.weak (k hR) rfl trivial
theorem cb_135_38 {X : Nat → Option zz_C} {h : zz_H} {t : cS} {s : mS} {d : Nat} {Q : zz_O → zz_H → Prop}  (hR : kR h t s) (k : ∀ {h : zz_H}, kR h t s → zz_J zp_P zt_tf zt_fd X d zm_135 39 [] [.int 0] h Q) : zz_J zp_P zt_tf zt_fd X d zm_135 38 [] [] h Q := by
  refine zz_J.c 39 (.int 0) rfl rfl rfl rfl ?_
  exact zz_J.weak (k hR) rfl trivial
theorem cb_135_39 {X : Nat → Option zz_C} {h : zz_H} {t : cS} {s : mS} {d : Nat} {Q : zz_O → zz_H → Prop} {y0 : Int32} (hR : kR h t s) (k : ∀ {h : zz_H}, kR h t s → Q (.inl (some (.int y0))) h) : zz_J zp_P zt_tf zt_fd X d zm_135 39 [] [.int y0] h Q := by
  refine zz_J.ret rfl rfl rfl ?_
  exact k hR
def cf_135_39 (N : Nat) (X : Nat → Option zz_C) (y0 : Int32) (t : cS) : kO := some (t, .inl (some (.int y0)))
theorem cr_135_39 {X : Nat → Option zz_C} {s : mS} {N : Nat} {d : Nat} (hd : 0 ≤ d) {Q : zz_O → zz_H → Prop} {y0 : Int32} {h : zz_H} {t t' : cS} {o : kY} (hR : kR h t s) (hf : cf_135_39 N X y0 t = some (t', o)) (k : (∀ h', kR h' t' s → kE o Q h')) : zz_J zp_P zt_tf zt_fd X d zm_135 39 [] [.int y0] h Q := by
  unfold cf_135_39 at hf
  cases hf
  exact cb_135_39 hR  (fun {h} hR => k h hR)
def cf_135_38 (N : Nat) (X : Nat → Option zz_C)  (t : cS) : kO := cf_135_39 N X 0 t
theorem cr_135_38 {X : Nat → Option zz_C} {s : mS} {N : Nat} {d : Nat} (hd : 0 ≤ d) {Q : zz_O → zz_H → Prop}  {h : zz_H} {t t' : cS} {o : kY} (hR : kR h t s) (hf : cf_135_38 N X  t = some (t', o)) (k : (∀ h', kR h' t' s → kE o Q h')) : zz_J zp_P zt_tf zt_fd X d zm_135 38 [] [] h Q := by
  unfold cf_135_38 at hf
  exact cb_135_38 hR  (fun hR => cr_135_39 hd hR hf k)
def cf_135_28 (N : Nat) (X : Nat → Option zz_C) (x3 : Int32) (t : cS) : kO := if ¬ (x3 < 0 ∨ (kB t 43).1 ≤ (Int32.toNatClampNeg x3)) then (cf_135_39 N X (Int64.toInt32 ((kB t 43).2 (Int32.toNatClampNeg x3))) t) else none
theorem cr_135_28 {X : Nat → Option zz_C} {s : mS} {N : Nat} {d : Nat} (hd : 0 ≤ d) {Q : zz_O → zz_H → Prop} {x3 : Int32} {h : zz_H} {t t' : cS} {o : kY} (hR : kR h t s) (hf : cf_135_28 N X x3 t = some (t', o)) (k : (∀ h', kR h' t' s → kE o Q h')) : zz_J zp_P zt_tf zt_fd X d zm_135 28 [(0, .ref 42), (3, .int x3)] [] h Q := by
  unfold cf_135_28 at hf
  obtain ⟨e0, hf⟩ := ko_if hf
  exact cb_135_28 hR e0 (fun hR => cr_135_39 hd hR hf k)
def cf_135_20 (N : Nat) (X : Nat → Option zz_C) (x3 : Int32) (t : cS) : kO := if (kI t 42 1) ≤ x3 then cf_135_38 N X  t else cf_135_28 N X x3 t
theorem cr_135_20 {X : Nat → Option zz_C} {s : mS} {N : Nat} {d : Nat} (hd : 0 ≤ d) {Q : zz_O → zz_H → Prop} {x3 : Int32} {h : zz_H} {t t' : cS} {o : kY} (hR : kR h t s) (hf : cf_135_20 N X x3 t = some (t', o)) (k : (∀ h', kR h' t' s → kE o Q h')) : zz_J zp_P zt_tf zt_fd X d zm_135 20 [(0, .ref 42), (3, .int x3)] [] h Q := by
  unfold cf_135_20 at hf
  refine cb_135_20 hR  (fun c {h} hR => ?_) (fun c {h} hR => ?_)
  · rw [if_pos c] at hf
    exact cr_135_38 hd hR hf k
  · rw [if_neg c] at hf
    exact cr_135_28 hd hR hf k
def cf_135_16 (N : Nat) (X : Nat → Option zz_C) (x3 : Int32) (t : cS) : kO := if x3 < 0 then cf_135_38 N X  t else cf_135_20 N X x3 t
theorem cr_135_16 {X : Nat → Option zz_C} {s : mS} {N : Nat} {d : Nat} (hd : 0 ≤ d) {Q : zz_O → zz_H → Prop} {x3 : Int32} {h : zz_H} {t t' : cS} {o : kY} (hR : kR h t s) (hf : cf_135_16 N X x3 t = some (t', o)) (k : (∀ h', kR h' t' s → kE o Q h')) : zz_J zp_P zt_tf zt_fd X d zm_135 16 [(0, .ref 42), (3, .int x3)] [] h Q := by
  unfold cf_135_16 at hf
  refine cb_135_16 hR  (fun c {h} hR => ?_) (fun c {h} hR => ?_)
  · rw [if_pos c] at hf
    exact cr_135_38 hd hR hf k
  · rw [if_neg c] at hf
    exact cr_135_20 hd hR hf k
def cf_135_0 (N : Nat) (X : Nat → Option zz_C) (x1 : Int64) (t : cS) : kO := if ¬ (lg_cmp (x1 >>> (Int32.toInt64 32 &&& 63)) 3) = 0 then cf_135_38 N X  t else cf_135_16 N X ((Int64.toInt32 x1) + 2) t
theorem cr_135_0 {X : Nat → Option zz_C} {s : mS} {N : Nat} {d : Nat} (hd : 0 ≤ d) {Q : zz_O → zz_H → Prop} {x1 : Int64} {h : zz_H} {t t' : cS} {o : kY} (hR : kR h t s) (hf : cf_135_0 N X x1 t = some (t', o)) (k : (∀ h', kR h' t' s → kE o Q h')) : zz_J zp_P zt_tf zt_fd X d zm_135 0 [(0, .ref 42), (1, .long x1)] [] h Q := by
  unfold cf_135_0 at hf
  refine cb_135_0 hR  (fun c {h} hR => ?_) (fun c {h} hR => ?_)
  · rw [if_pos c] at hf
    exact cr_135_38 hd hR hf k
  · rw [if_neg c] at hf
    exact cr_135_16 hd hR hf k
/-- depthOf -/
def cf_135 (N : Nat) (X : Nat → Option zz_C) (x1 : Int64) (t : cS) : kO := cf_135_0 N X x1 t
theorem cr_135 {X : Nat → Option zz_C} {s : mS} {N : Nat} {d : Nat} (hd : 0 ≤ d) {Q : zz_O → zz_H → Prop} {x1 : Int64} {h : zz_H} {t t' : cS} {o : kY} (hR : kR h t s) (hf : cf_135 N X x1 t = some (t', o)) (k : ∀ h', kR h' t' s → kE o Q h') : zz_J zp_P zt_tf zt_fd X d zm_135 0 [(0, .ref 42), (1, .long x1)] [] h Q := by
  unfold cf_135 at hf
  exact zz_J.weak (cr_135_0 hd hR hf k) rfl ⟨rfl, rfl, trivial⟩
/-! yX12_refusal (I)J -/
theorem cb_254_0 {X : Nat → Option zz_C} {h : zz_H} {t : cS} {s : mS} {d : Nat} {Q : zz_O → zz_H → Prop} {x0 : Int32} (hR : kR h t s) (k : ∀ {h : zz_H}, kR h t s → Q (.inl (some (.long (17179869184 ||| (Int32.toInt64 x0))))) h) : zz_J zp_P zt_tf zt_fd X d zm_254 0 [(0, .int x0)] [] h Q := by
  refine zz_J.c 3 (.long 17179869184) rfl rfl rfl rfl ?_
  refine zz_J.n 4 rfl rfl rfl ?_
  refine zz_J.n 5 rfl rfl rfl ?_
  refine zz_J.n 6 rfl rfl rfl ?_
  refine zz_J.ret rfl rfl rfl ?_
  exact k hR
def cf_254_0 (N : Nat) (X : Nat → Option zz_C) (x0 : Int32) (t : cS) : kO := some (t, .inl (some (.long (17179869184 ||| (Int32.toInt64 x0)))))
theorem cr_254_0 {X : Nat → Option zz_C} {s : mS} {N : Nat} {d : Nat} (hd : 0 ≤ d) {Q : zz_O → zz_H → Prop} {x0 : Int32} {h : zz_H} {t t' : cS} {o : kY} (hR : kR h t s) (hf : cf_254_0 N X x0 t = some (t', o)) (k : (∀ h', kR h' t' s → kE o Q h')) : zz_J zp_P zt_tf zt_fd X d zm_254 0 [(0, .int x0)] [] h Q := by
  unfold cf_254_0 at hf
  cases hf
  exact cb_254_0 hR  (fun {h} hR => k h hR)
/-- refusal -/
def cf_254 (N : Nat) (X : Nat → Option zz_C) (x0 : Int32) (t : cS) : kO := cf_254_0 N X x0 t
theorem cr_254 {X : Nat → Option zz_C} {s : mS} {N : Nat} {d : Nat} (hd : 0 ≤ d) {Q : zz_O → zz_H → Prop} {x0 : Int32} {h : zz_H} {t t' : cS} {o : kY} (hR : kR h t s) (hf : cf_254 N X x0 t = some (t', o)) (k : ∀ h', kR h' t' s → kE o Q h') : zz_J zp_P zt_tf zt_fd X d zm_254 0 [(0, .int x0)] [] h Q := by
  unfold cf_254 at hf
  exact zz_J.weak (cr_254_0 hd hR hf k) rfl ⟨rfl, trivial⟩
