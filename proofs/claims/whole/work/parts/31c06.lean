/-! yX6_countParameters (I)V -/
theorem cb_207_0 {X : Nat → Option zz_C} {h : zz_H} {t : cS} {s : mS} {d : Nat} {Q : zz_O → zz_H → Prop} {x0 : Nat} {x1 : Int32} (hR : kR h t s) (e0 : x0 = 12 ∨ x0 = 21) (k1 : (kI t x0 4) ≤ 0 → (∀ {h : zz_H}, kR h t s → zz_J zp_P zt_tf zt_fd X d zm_207 19 [] [] h Q)) (k2 : ¬ (kI t x0 4) ≤ 0 → (∀ {h : zz_H}, kR h t s → zz_J zp_P zt_tf zt_fd X d zm_207 7 [(0, .ref x0), (1, .int x1)] [] h Q)) : zz_J zp_P zt_tf zt_fd X d zm_207 0 [(0, .ref x0), (1, .int x1)] [] h Q := by
  refine zz_J.n 1 rfl rfl rfl ?_
  refine zz_J.g 4 rfl (hR.gv (v := .int (kI t x0 4)) (ko_P e0) (by decide) rfl) rfl ?_
  refine zz_J.b1 19 7 (A := (kI t x0 4) ≤ 0) rfl rfl (by decide) rfl rfl (fun c => ?_) (fun c => ?_)
  · exact zz_J.weak (k1 c hR) rfl trivial
  · exact zz_J.weak (k2 c hR) rfl ⟨rfl, rfl, trivial⟩
theorem cb_207_7 {X : Nat → Option zz_C} {h : zz_H} {t : cS} {s : mS} {d : Nat} {Q : zz_O → zz_H → Prop} {x0 : Nat} {x1 : Int32} (hR : kR h t s) (e0 : x0 = 12 ∨ x0 = 21) (e1 : ¬ (((kI t x0 4) - 1) < 0 ∨ (kA t (x0 + 6)).1 ≤ (Int32.toNatClampNeg ((kI t x0 4) - 1)))) (k : ∀ {h : zz_H}, kR h (jA t (x0 + 6) (upd (kA t (x0 + 6)).2 (Int32.toNatClampNeg ((kI t x0 4) - 1)) x1)) s → zz_J zp_P zt_tf zt_fd X d zm_207 19 [] [] h Q) : zz_J zp_P zt_tf zt_fd X d zm_207 7 [(0, .ref x0), (1, .int x1)] [] h Q := by
  refine zz_J.n 8 rfl rfl rfl ?_
  refine zz_J.g 11 rfl (hR.gv (v := .ref (kD t (x0 + 6))) (ko_P e0) (by decide) rfl) rfl ?_
  refine zz_J.n 12 rfl rfl rfl ?_
  refine zz_J.g 15 rfl (hR.gv (v := .int (kI t x0 4)) (ko_P e0) (by decide) rfl) rfl ?_
  refine zz_J.c 16 (.int 1) rfl rfl rfl rfl ?_
  refine zz_J.n 17 rfl rfl rfl ?_
  refine zz_J.n 18 rfl rfl rfl ?_
  obtain ⟨h1, eq1, hR⟩ := hR.si (x := x1) (ka_P6 e0) rfl e1
  refine zz_J.si 19 rfl eq1 rfl ?_
  clear eq1
  exact zz_J.weak (k hR) rfl trivial
theorem cb_207_19 {X : Nat → Option zz_C} {h : zz_H} {t : cS} {s : mS} {d : Nat} {Q : zz_O → zz_H → Prop}  (hR : kR h t s) (k : ∀ {h : zz_H}, kR h t s → Q (.inl none) h) : zz_J zp_P zt_tf zt_fd X d zm_207 19 [] [] h Q := by
  refine zz_J.ret rfl rfl rfl ?_
  exact k hR
def cf_207_19 (N : Nat) (X : Nat → Option zz_C)  (t : cS) : kO := some (t, .inl none)
theorem cr_207_19 {X : Nat → Option zz_C} {s : mS} {N : Nat} {d : Nat} (hd : 0 ≤ d) {Q : zz_O → zz_H → Prop}  {h : zz_H} {t t' : cS} {o : kY} (hR : kR h t s) (hf : cf_207_19 N X  t = some (t', o)) (k : (∀ h', kR h' t' s → kE o Q h')) : zz_J zp_P zt_tf zt_fd X d zm_207 19 [] [] h Q := by
  unfold cf_207_19 at hf
  cases hf
  exact cb_207_19 hR  (fun {h} hR => k h hR)
def cf_207_7 (N : Nat) (X : Nat → Option zz_C) (x0 : Nat) (x1 : Int32) (t : cS) : kO := if x0 = 12 ∨ x0 = 21 then (if ¬ (((kI t x0 4) - 1) < 0 ∨ (kA t (x0 + 6)).1 ≤ (Int32.toNatClampNeg ((kI t x0 4) - 1))) then (cf_207_19 N X  (jA t (x0 + 6) (upd (kA t (x0 + 6)).2 (Int32.toNatClampNeg ((kI t x0 4) - 1)) x1))) else none) else none
theorem cr_207_7 {X : Nat → Option zz_C} {s : mS} {N : Nat} {d : Nat} (hd : 0 ≤ d) {Q : zz_O → zz_H → Prop} {x0 : Nat} {x1 : Int32} {h : zz_H} {t t' : cS} {o : kY} (hR : kR h t s) (hf : cf_207_7 N X x0 x1 t = some (t', o)) (k : (∀ h', kR h' t' s → kE o Q h')) : zz_J zp_P zt_tf zt_fd X d zm_207 7 [(0, .ref x0), (1, .int x1)] [] h Q := by
  unfold cf_207_7 at hf
  obtain ⟨e0, hf⟩ := ko_if hf
  obtain ⟨e1, hf⟩ := ko_if hf
  exact cb_207_7 hR e0 e1 (fun hR => cr_207_19 hd hR hf k)
def cf_207_0 (N : Nat) (X : Nat → Option zz_C) (x0 : Nat) (x1 : Int32) (t : cS) : kO := if x0 = 12 ∨ x0 = 21 then (if (kI t x0 4) ≤ 0 then cf_207_19 N X  t else cf_207_7 N X x0 x1 t) else none
theorem cr_207_0 {X : Nat → Option zz_C} {s : mS} {N : Nat} {d : Nat} (hd : 0 ≤ d) {Q : zz_O → zz_H → Prop} {x0 : Nat} {x1 : Int32} {h : zz_H} {t t' : cS} {o : kY} (hR : kR h t s) (hf : cf_207_0 N X x0 x1 t = some (t', o)) (k : (∀ h', kR h' t' s → kE o Q h')) : zz_J zp_P zt_tf zt_fd X d zm_207 0 [(0, .ref x0), (1, .int x1)] [] h Q := by
  unfold cf_207_0 at hf
  obtain ⟨e0, hf⟩ := ko_if hf
  refine cb_207_0 hR e0 (fun c {h} hR => ?_) (fun c {h} hR => ?_)
  · rw [if_pos c] at hf
    exact cr_207_19 hd hR hf k
  · rw [if_neg c] at hf
    exact cr_207_7 hd hR hf k
/-- countParameters -/
def cf_207 (N : Nat) (X : Nat → Option zz_C) (x0 : Nat) (x1 : Int32) (t : cS) : kO := cf_207_0 N X x0 x1 t
theorem cr_207 {X : Nat → Option zz_C} {s : mS} {N : Nat} {d : Nat} (hd : 0 ≤ d) {Q : zz_O → zz_H → Prop} {x0 : Nat} {x1 : Int32} {h : zz_H} {t t' : cS} {o : kY} (hR : kR h t s) (hf : cf_207 N X x0 x1 t = some (t', o)) (k : ∀ h', kR h' t' s → kE o Q h') : zz_J zp_P zt_tf zt_fd X d zm_207 0 [(0, .ref x0), (1, .int x1)] [] h Q := by
  unfold cf_207 at hf
  exact zz_J.weak (cr_207_0 hd hR hf k) rfl ⟨rfl, rfl, trivial⟩
/-! yX6_countVariables (I)V -/
theorem cb_208_0 {X : Nat → Option zz_C} {h : zz_H} {t : cS} {s : mS} {d : Nat} {Q : zz_O → zz_H → Prop} {x0 : Nat} {x1 : Int32} (hR : kR h t s) (e0 : x0 = 12 ∨ x0 = 21) (k1 : (kI t x0 4) ≤ 0 → (∀ {h : zz_H}, kR h t s → zz_J zp_P zt_tf zt_fd X d zm_208 19 [] [] h Q)) (k2 : ¬ (kI t x0 4) ≤ 0 → (∀ {h : zz_H}, kR h t s → zz_J zp_P zt_tf zt_fd X d zm_208 7 [(0, .ref x0), (1, .int x1)] [] h Q)) : zz_J zp_P zt_tf zt_fd X d zm_208 0 [(0, .ref x0), (1, .int x1)] [] h Q := by
  refine zz_J.n 1 rfl rfl rfl ?_
  refine zz_J.g 4 rfl (hR.gv (v := .int (kI t x0 4)) (ko_P e0) (by decide) rfl) rfl ?_
  refine zz_J.b1 19 7 (A := (kI t x0 4) ≤ 0) rfl rfl (by decide) rfl rfl (fun c => ?_) (fun c => ?_)
  · exact zz_J.weak (k1 c hR) rfl trivial
  · exact zz_J.weak (k2 c hR) rfl ⟨rfl, rfl, trivial⟩
theorem cb_208_7 {X : Nat → Option zz_C} {h : zz_H} {t : cS} {s : mS} {d : Nat} {Q : zz_O → zz_H → Prop} {x0 : Nat} {x1 : Int32} (hR : kR h t s) (e0 : x0 = 12 ∨ x0 = 21) (e1 : ¬ (((kI t x0 4) - 1) < 0 ∨ (kA t (x0 + 7)).1 ≤ (Int32.toNatClampNeg ((kI t x0 4) - 1)))) (k : ∀ {h : zz_H}, kR h (jA t (x0 + 7) (upd (kA t (x0 + 7)).2 (Int32.toNatClampNeg ((kI t x0 4) - 1)) x1)) s → zz_J zp_P zt_tf zt_fd X d zm_208 19 [] [] h Q) : zz_J zp_P zt_tf zt_fd X d zm_208 7 [(0, .ref x0), (1, .int x1)] [] h Q := by
  refine zz_J.n 8 rfl rfl rfl ?_
  refine zz_J.g 11 rfl (hR.gv (v := .ref (kD t (x0 + 7))) (ko_P e0) (by decide) rfl) rfl ?_
  refine zz_J.n 12 rfl rfl rfl ?_
  refine zz_J.g 15 rfl (hR.gv (v := .int (kI t x0 4)) (ko_P e0) (by decide) rfl) rfl ?_
  refine zz_J.c 16 (.int 1) rfl rfl rfl rfl ?_
  refine zz_J.n 17 rfl rfl rfl ?_
  refine zz_J.n 18 rfl rfl rfl ?_
  obtain ⟨h1, eq1, hR⟩ := hR.si (x := x1) (ka_P7 e0) rfl e1
  refine zz_J.si 19 rfl eq1 rfl ?_
  clear eq1
  exact zz_J.weak (k hR) rfl trivial
theorem cb_208_19 {X : Nat → Option zz_C} {h : zz_H} {t : cS} {s : mS} {d : Nat} {Q : zz_O → zz_H → Prop}  (hR : kR h t s) (k : ∀ {h : zz_H}, kR h t s → Q (.inl none) h) : zz_J zp_P zt_tf zt_fd X d zm_208 19 [] [] h Q := by
  refine zz_J.ret rfl rfl rfl ?_
  exact k hR
def cf_208_19 (N : Nat) (X : Nat → Option zz_C)  (t : cS) : kO := some (t, .inl none)
theorem cr_208_19 {X : Nat → Option zz_C} {s : mS} {N : Nat} {d : Nat} (hd : 0 ≤ d) {Q : zz_O → zz_H → Prop}  {h : zz_H} {t t' : cS} {o : kY} (hR : kR h t s) (hf : cf_208_19 N X  t = some (t', o)) (k : (∀ h', kR h' t' s → kE o Q h')) : zz_J zp_P zt_tf zt_fd X d zm_208 19 [] [] h Q := by
  unfold cf_208_19 at hf
  cases hf
  exact cb_208_19 hR  (fun {h} hR => k h hR)
def cf_208_7 (N : Nat) (X : Nat → Option zz_C) (x0 : Nat) (x1 : Int32) (t : cS) : kO := if x0 = 12 ∨ x0 = 21 then (if ¬ (((kI t x0 4) - 1) < 0 ∨ (kA t (x0 + 7)).1 ≤ (Int32.toNatClampNeg ((kI t x0 4) - 1))) then (cf_208_19 N X  (jA t (x0 + 7) (upd (kA t (x0 + 7)).2 (Int32.toNatClampNeg ((kI t x0 4) - 1)) x1))) else none) else none
theorem cr_208_7 {X : Nat → Option zz_C} {s : mS} {N : Nat} {d : Nat} (hd : 0 ≤ d) {Q : zz_O → zz_H → Prop} {x0 : Nat} {x1 : Int32} {h : zz_H} {t t' : cS} {o : kY} (hR : kR h t s) (hf : cf_208_7 N X x0 x1 t = some (t', o)) (k : (∀ h', kR h' t' s → kE o Q h')) : zz_J zp_P zt_tf zt_fd X d zm_208 7 [(0, .ref x0), (1, .int x1)] [] h Q := by
  unfold cf_208_7 at hf
  obtain ⟨e0, hf⟩ := ko_if hf
  obtain ⟨e1, hf⟩ := ko_if hf
  exact cb_208_7 hR e0 e1 (fun hR => cr_208_19 hd hR hf k)
def cf_208_0 (N : Nat) (X : Nat → Option zz_C) (x0 : Nat) (x1 : Int32) (t : cS) : kO := if x0 = 12 ∨ x0 = 21 then (if (kI t x0 4) ≤ 0 then cf_208_19 N X  t else cf_208_7 N X x0 x1 t) else none
theorem cr_208_0 {X : Nat → Option zz_C} {s : mS} {N : Nat} {d : Nat} (hd : 0 ≤ d) {Q : zz_O → zz_H → Prop} {x0 : Nat} {x1 : Int32} {h : zz_H} {t t' : cS} {o : kY} (hR : kR h t s) (hf : cf_208_0 N X x0 x1 t = some (t', o)) (k : (∀ h', kR h' t' s → kE o Q h')) : zz_J zp_P zt_tf zt_fd X d zm_208 0 [(0, .ref x0), (1, .int x1)] [] h Q := by
  unfold cf_208_0 at hf
  obtain ⟨e0, hf⟩ := ko_if hf
  refine cb_208_0 hR e0 (fun c {h} hR => ?_) (fun c {h} hR => ?_)
  · rw [if_pos c] at hf
    exact cr_208_19 hd hR hf k
  · rw [if_neg c] at hf
    exact cr_208_7 hd hR hf k
/-- countVariables -/
def cf_208 (N : Nat) (X : Nat → Option zz_C) (x0 : Nat) (x1 : Int32) (t : cS) : kO := cf_208_0 N X x0 x1 t
theorem cr_208 {X : Nat → Option zz_C} {s : mS} {N : Nat} {d : Nat} (hd : 0 ≤ d) {Q : zz_O → zz_H → Prop} {x0 : Nat} {x1 : Int32} {h : zz_H} {t t' : cS} {o : kY} (hR : kR h t s) (hf : cf_208 N X x0 x1 t = some (t', o)) (k : ∀ h', kR h' t' s → kE o Q h') : zz_J zp_P zt_tf zt_fd X d zm_208 0 [(0, .ref x0), (1, .int x1)] [] h Q := by
  unfold cf_208 at hf
  exact zz_J.weak (cr_208_0 hd hR hf k) rfl ⟨rfl, rfl, trivial⟩
/-! yX5_oneFunction ()V -/
theorem cb_173_0 {X : Nat → Option zz_C} {h : zz_H} {t : cS} {s : mS} {d : Nat} {Q : zz_O → zz_H → Prop}  (hR : kR h t s) (k : ∀ {h : zz_H}, kR h t s → zz_J zp_P zt_tf zt_fd X d zm_200 0 [(0, .ref 2), (1, .ref (zz_out + 1))] [] h (zz_after 5 Q (fun v h' => zz_J zp_P zt_tf zt_fd X (d + 1) zm_173 7 [(0, .ref 2)] (v.toList ++ []) h' Q))) : zz_J zp_P zt_tf zt_fd X (d + 1) zm_173 0 [(0, .ref 2)] [] h Q := by
  refine zz_J.n 1 rfl rfl rfl ?_
  refine zz_J.c 4 (.ref (zz_out + 1)) rfl rfl rfl rfl ?_
  refine zz_J.cv 7 (as := []) rfl rfl (hR.clO ko_2 (by decide) (by decide)) (by decide) (Nat.le_of_ble_eq_true rfl) (Nat.le_of_ble_eq_true rfl) rfl (Nat.le_of_ble_eq_true rfl) rfl ?_
  refine zz_J.mono (k hR) ?_
  intro o h' hE
  cases o with
  | inl v => exact zz_J.weak hE rfl ⟨rfl, trivial⟩
  | inr q => exact hE
theorem cb_173_7 {X : Nat → Option zz_C} {h : zz_H} {t : cS} {s : mS} {d : Nat} {Q : zz_O → zz_H → Prop}  (hR : kR h t s) (k : ∀ {h : zz_H}, kR h t s → zz_J zp_P zt_tf zt_fd X d zm_174 0 [(0, .ref 2)] [] h (zz_after 5 Q (fun v h' => zz_J zp_P zt_tf zt_fd X (d + 1) zm_173 11 [(0, .ref 2)] (v.toList ++ []) h' Q))) : zz_J zp_P zt_tf zt_fd X (d + 1) zm_173 7 [(0, .ref 2)] [] h Q := by
  refine zz_J.n 8 rfl rfl rfl ?_
  refine zz_J.cv 11 (as := []) rfl rfl (hR.clO ko_2 (by decide) (by decide)) (by decide) (Nat.le_of_ble_eq_true rfl) (Nat.le_of_ble_eq_true rfl) rfl (Nat.le_of_ble_eq_true rfl) rfl ?_
  refine zz_J.mono (k hR) ?_
  intro o h' hE
  cases o with
  | inl v => exact zz_J.weak hE rfl ⟨rfl, trivial⟩
  | inr q => exact hE
theorem cb_173_11 {X : Nat → Option zz_C} {h : zz_H} {t : cS} {s : mS} {d : Nat} {Q : zz_O → zz_H → Prop}  (hR : kR h t s) (k : ∀ {h : zz_H}, kR h t s → zz_J zp_P zt_tf zt_fd X d zm_201 0 [(0, .ref 2), (1, .int 40)] [] h (zz_after 5 Q (fun v h' => zz_J zp_P zt_tf zt_fd X (d + 1) zm_173 17 [(0, .ref 2)] (v.toList ++ []) h' Q))) : zz_J zp_P zt_tf zt_fd X (d + 1) zm_173 11 [(0, .ref 2)] [] h Q := by
  refine zz_J.n 12 rfl rfl rfl ?_
  refine zz_J.c 14 (.int 40) rfl rfl rfl rfl ?_
  refine zz_J.cv 17 (as := []) rfl rfl (hR.clO ko_2 (by decide) (by decide)) (by decide) (Nat.le_of_ble_eq_true rfl) (Nat.le_of_ble_eq_true rfl) rfl (Nat.le_of_ble_eq_true rfl) rfl ?_
  refine zz_J.mono (k hR) ?_
  intro o h' hE
  cases o with
  | inl v => exact zz_J.weak hE rfl ⟨rfl, trivial⟩
  | inr q => exact hE
theorem cb_173_17 {X : Nat → Option zz_C} {h : zz_H} {t : cS} {s : mS} {d : Nat} {Q : zz_O → zz_H → Prop}  (hR : kR h t s) (k : ∀ {h : zz_H}, kR h (jI t 2 4 0) s → zz_J zp_P zt_tf zt_fd X d zm_42 0 [(0, .ref 3)] [] h (zz_after 10 Q (fun v h' => zz_J zp_P zt_tf zt_fd X (d + 1) zm_173 29 [(0, .ref 2)] (v.toList ++ []) h' Q))) : zz_J zp_P zt_tf zt_fd X (d + 1) zm_173 17 [(0, .ref 2)] [] h Q := by
  refine zz_J.n 18 rfl rfl rfl ?_
  refine zz_J.c 19 (.int 0) rfl rfl rfl rfl ?_
  obtain ⟨h1, eq1, hR⟩ := hR.pI (x := (0 : Int32)) (by decide) ko_2 (kpi_2_4 _) (Nat.le_of_ble_eq_true rfl) rfl
  refine zz_J.pv 22 rfl eq1 rfl ?_
  clear eq1
  refine zz_J.n 23 rfl rfl rfl ?_
  refine zz_J.g 26 rfl (hR.gv (v := .ref 3) ko_2 (by decide) rfl) rfl ?_
  refine zz_J.cv 29 (as := []) rfl rfl (hR.clO ko_3 (by decide) (by decide)) (by decide) (Nat.le_of_ble_eq_true rfl) (Nat.le_of_ble_eq_true rfl) rfl (Nat.le_of_ble_eq_true rfl) rfl ?_
  refine zz_J.mono (k hR) ?_
  intro o h' hE
  cases o with
  | inl v => exact zz_J.weak hE rfl ⟨rfl, trivial⟩
  | inr q => exact hE
theorem cb_173_29 {X : Nat → Option zz_C} {h : zz_H} {t : cS} {s : mS} {d : Nat} {Q : zz_O → zz_H → Prop} {y0 : Int32} (hR : kR h t s) (k1 : y0 = 41 → (∀ {h : zz_H}, kR h t s → zz_J zp_P zt_tf zt_fd X d zm_173 80 [(0, .ref 2)] [] h Q)) (k2 : ¬ y0 = 41 → (∀ {h : zz_H}, kR h t s → zz_J zp_P zt_tf zt_fd X d zm_173 34 [(0, .ref 2)] [] h Q)) : zz_J zp_P zt_tf zt_fd X d zm_173 29 [(0, .ref 2)] [.int y0] h Q := by
  refine zz_J.c 31 (.int 41) rfl rfl rfl rfl ?_
  refine zz_J.b2 80 34 (A := y0 = 41) rfl rfl (by decide) rfl rfl (fun c => ?_) (fun c => ?_)
  · exact zz_J.weak (k1 c hR) rfl ⟨rfl, trivial⟩
  · exact zz_J.weak (k2 c hR) rfl ⟨rfl, trivial⟩
theorem cb_173_34 {X : Nat → Option zz_C} {h : zz_H} {t : cS} {s : mS} {d : Nat} {Q : zz_O → zz_H → Prop}  (hR : kR h t s) (k : ∀ {h : zz_H}, kR h t s → zz_J zp_P zt_tf zt_fd X d zm_175 0 [(0, .ref 2)] [] h (zz_after 5 Q (fun v h' => zz_J zp_P zt_tf zt_fd X (d + 1) zm_173 38 [(0, .ref 2)] (v.toList ++ []) h' Q))) : zz_J zp_P zt_tf zt_fd X (d + 1) zm_173 34 [(0, .ref 2)] [] h Q := by
  refine zz_J.n 35 rfl rfl rfl ?_
  refine zz_J.cv 38 (as := []) rfl rfl (hR.clO ko_2 (by decide) (by decide)) (by decide) (Nat.le_of_ble_eq_true rfl) (Nat.le_of_ble_eq_true rfl) rfl (Nat.le_of_ble_eq_true rfl) rfl ?_
  refine zz_J.mono (k hR) ?_
  intro o h' hE
  cases o with
  | inl v => exact zz_J.weak hE rfl ⟨rfl, trivial⟩
  | inr q => exact hE
theorem cb_173_38 {X : Nat → Option zz_C} {h : zz_H} {t : cS} {s : mS} {d : Nat} {Q : zz_O → zz_H → Prop}  (hR : kR h t s) (k : ∀ {h : zz_H}, kR h t s → zz_J zp_P zt_tf zt_fd X d zm_173 40 [(0, .ref 2), (1, .int 0)] [] h Q) : zz_J zp_P zt_tf zt_fd X d zm_173 38 [(0, .ref 2)] [] h Q := by
  refine zz_J.c 39 (.int 0) rfl rfl rfl rfl ?_
  refine zz_J.n 40 rfl rfl rfl ?_
  exact zz_J.weak (k hR) rfl ⟨rfl, rfl, trivial⟩
theorem cb_173_40 {X : Nat → Option zz_C} {h : zz_H} {t : cS} {s : mS} {d : Nat} {Q : zz_O → zz_H → Prop} {x1 : Int32} (hR : kR h t s) (k : ∀ {h : zz_H}, kR h t s → zz_J zp_P zt_tf zt_fd X d zm_41 0 [(0, .ref 3)] [] h (zz_after 10 Q (fun v h' => zz_J zp_P zt_tf zt_fd X (d + 1) zm_173 48 [(0, .ref 2), (1, .int x1)] (v.toList ++ [.int x1]) h' Q))) : zz_J zp_P zt_tf zt_fd X (d + 1) zm_173 40 [(0, .ref 2), (1, .int x1)] [] h Q := by
  refine zz_J.n 41 rfl rfl rfl ?_
  refine zz_J.n 42 rfl rfl rfl ?_
  refine zz_J.g 45 rfl (hR.gv (v := .ref 3) ko_2 (by decide) rfl) rfl ?_
  refine zz_J.cv 48 (as := [.int x1]) rfl rfl (hR.clO ko_3 (by decide) (by decide)) (by decide) (Nat.le_of_ble_eq_true rfl) (Nat.le_of_ble_eq_true rfl) rfl (Nat.le_of_ble_eq_true rfl) rfl ?_
  refine zz_J.mono (k hR) ?_
  intro o h' hE
  cases o with
  | inl v => exact zz_J.weak hE rfl ⟨rfl, rfl, trivial⟩
  | inr q => exact hE
theorem cb_173_48 {X : Nat → Option zz_C} {h : zz_H} {t : cS} {s : mS} {d : Nat} {Q : zz_O → zz_H → Prop} {x1 : Int32} {y0 : Int32} {y1 : Int32} (hR : kR h t s) (k1 : y1 ≤ y0 → (∀ {h : zz_H}, kR h t s → zz_J zp_P zt_tf zt_fd X d zm_173 80 [(0, .ref 2)] [] h Q)) (k2 : ¬ y1 ≤ y0 → (∀ {h : zz_H}, kR h t s → zz_J zp_P zt_tf zt_fd X d zm_173 51 [(0, .ref 2), (1, .int x1)] [] h Q)) : zz_J zp_P zt_tf zt_fd X d zm_173 48 [(0, .ref 2), (1, .int x1)] [.int y1, .int y0] h Q := by
  refine zz_J.b2 80 51 (A := y1 ≤ y0) rfl rfl (by decide) rfl rfl (fun c => ?_) (fun c => ?_)
  · exact zz_J.weak (k1 c hR) rfl ⟨rfl, trivial⟩
  · exact zz_J.weak (k2 c hR) rfl ⟨rfl, rfl, trivial⟩
theorem cb_173_51 {X : Nat → Option zz_C} {h : zz_H} {t : cS} {s : mS} {d : Nat} {Q : zz_O → zz_H → Prop} {x1 : Int32} (hR : kR h t s) (k : ∀ {h : zz_H}, kR h t s → zz_J zp_P zt_tf zt_fd X d zm_42 0 [(0, .ref 3)] [] h (zz_after 10 Q (fun v h' => zz_J zp_P zt_tf zt_fd X (d + 1) zm_173 58 [(0, .ref 2), (1, .int x1)] (v.toList ++ []) h' Q))) : zz_J zp_P zt_tf zt_fd X (d + 1) zm_173 51 [(0, .ref 2), (1, .int x1)] [] h Q := by
  refine zz_J.n 52 rfl rfl rfl ?_
  refine zz_J.g 55 rfl (hR.gv (v := .ref 3) ko_2 (by decide) rfl) rfl ?_
  refine zz_J.cv 58 (as := []) rfl rfl (hR.clO ko_3 (by decide) (by decide)) (by decide) (Nat.le_of_ble_eq_true rfl) (Nat.le_of_ble_eq_true rfl) rfl (Nat.le_of_ble_eq_true rfl) rfl ?_
  refine zz_J.mono (k hR) ?_
  intro o h' hE
  cases o with
  | inl v => exact zz_J.weak hE rfl ⟨rfl, rfl, trivial⟩
  | inr q => exact hE
theorem cb_173_58 {X : Nat → Option zz_C} {h : zz_H} {t : cS} {s : mS} {d : Nat} {Q : zz_O → zz_H → Prop} {x1 : Int32} {y0 : Int32} (hR : kR h t s) (k1 : ¬ y0 = 44 → (∀ {h : zz_H}, kR h t s → zz_J zp_P zt_tf zt_fd X d zm_173 80 [(0, .ref 2)] [] h Q)) (k2 : ¬ ¬ y0 = 44 → (∀ {h : zz_H}, kR h t s → zz_J zp_P zt_tf zt_fd X d zm_173 63 [(0, .ref 2), (1, .int x1)] [] h Q)) : zz_J zp_P zt_tf zt_fd X d zm_173 58 [(0, .ref 2), (1, .int x1)] [.int y0] h Q := by
  refine zz_J.c 60 (.int 44) rfl rfl rfl rfl ?_
  refine zz_J.b2 80 63 (A := ¬ y0 = 44) rfl (zz_cond_ne _ _) (by decide) rfl rfl (fun c => ?_) (fun c => ?_)
  · exact zz_J.weak (k1 c hR) rfl ⟨rfl, trivial⟩
  · exact zz_J.weak (k2 c hR) rfl ⟨rfl, rfl, trivial⟩
theorem cb_173_63 {X : Nat → Option zz_C} {h : zz_H} {t : cS} {s : mS} {d : Nat} {Q : zz_O → zz_H → Prop} {x1 : Int32} (hR : kR h t s) (k : ∀ {h : zz_H}, kR h t s → zz_J zp_P zt_tf zt_fd X d zm_46 0 [(0, .ref 3)] [] h (zz_after 10 Q (fun v h' => zz_J zp_P zt_tf zt_fd X (d + 1) zm_173 70 [(0, .ref 2), (1, .int x1)] (v.toList ++ []) h' Q))) : zz_J zp_P zt_tf zt_fd X (d + 1) zm_173 63 [(0, .ref 2), (1, .int x1)] [] h Q := by
  refine zz_J.n 64 rfl rfl rfl ?_
  refine zz_J.g 67 rfl (hR.gv (v := .ref 3) ko_2 (by decide) rfl) rfl ?_
  refine zz_J.cv 70 (as := []) rfl rfl (hR.clO ko_3 (by decide) (by decide)) (by decide) (Nat.le_of_ble_eq_true rfl) (Nat.le_of_ble_eq_true rfl) rfl (Nat.le_of_ble_eq_true rfl) rfl ?_
  refine zz_J.mono (k hR) ?_
  intro o h' hE
  cases o with
  | inl v => exact zz_J.weak hE rfl ⟨rfl, rfl, trivial⟩
  | inr q => exact hE
theorem cb_173_70 {X : Nat → Option zz_C} {h : zz_H} {t : cS} {s : mS} {d : Nat} {Q : zz_O → zz_H → Prop} {x1 : Int32} (hR : kR h t s) (k : ∀ {h : zz_H}, kR h t s → zz_J zp_P zt_tf zt_fd X d zm_175 0 [(0, .ref 2)] [] h (zz_after 5 Q (fun v h' => zz_J zp_P zt_tf zt_fd X (d + 1) zm_173 74 [(0, .ref 2), (1, .int x1)] (v.toList ++ []) h' Q))) : zz_J zp_P zt_tf zt_fd X (d + 1) zm_173 70 [(0, .ref 2), (1, .int x1)] [] h Q := by
  refine zz_J.n 71 rfl rfl rfl ?_
  refine zz_J.cv 74 (as := []) rfl rfl (hR.clO ko_2 (by decide) (by decide)) (by decide) (Nat.le_of_ble_eq_true rfl) (Nat.le_of_ble_eq_true rfl) rfl (Nat.le_of_ble_eq_true rfl) rfl ?_
  refine zz_J.mono (k hR) ?_
  intro o h' hE
  cases o with
  | inl v => exact zz_J.weak hE rfl ⟨rfl, rfl, trivial⟩
  | inr q => exact hE
theorem cb_173_74 {X : Nat → Option zz_C} {h : zz_H} {t : cS} {s : mS} {d : Nat} {Q : zz_O → zz_H → Prop} {x1 : Int32} (hR : kR h t s) (k : ∀ {h : zz_H}, kR h t s → zz_J zp_P zt_tf zt_fd X d zm_173 40 [(0, .ref 2), (1, .int (x1 + 1))] [] h Q) : zz_J zp_P zt_tf zt_fd X d zm_173 74 [(0, .ref 2), (1, .int x1)] [] h Q := by
  refine zz_J.n 77 rfl rfl rfl ?_
  refine zz_J.n 40 rfl rfl rfl ?_
  exact zz_J.weak (k hR) rfl ⟨rfl, rfl, trivial⟩
theorem cb_173_80 {X : Nat → Option zz_C} {h : zz_H} {t : cS} {s : mS} {d : Nat} {Q : zz_O → zz_H → Prop}  (hR : kR h t s) (k : ∀ {h : zz_H}, kR h t s → zz_J zp_P zt_tf zt_fd X d zm_201 0 [(0, .ref 2), (1, .int 41)] [] h (zz_after 5 Q (fun v h' => zz_J zp_P zt_tf zt_fd X (d + 1) zm_173 86 [(0, .ref 2)] (v.toList ++ []) h' Q))) : zz_J zp_P zt_tf zt_fd X (d + 1) zm_173 80 [(0, .ref 2)] [] h Q := by
  refine zz_J.n 81 rfl rfl rfl ?_
  refine zz_J.c 83 (.int 41) rfl rfl rfl rfl ?_
  refine zz_J.cv 86 (as := []) rfl rfl (hR.clO ko_2 (by decide) (by decide)) (by decide) (Nat.le_of_ble_eq_true rfl) (Nat.le_of_ble_eq_true rfl) rfl (Nat.le_of_ble_eq_true rfl) rfl ?_
  refine zz_J.mono (k hR) ?_
  intro o h' hE
  cases o with
  | inl v => exact zz_J.weak hE rfl ⟨rfl, trivial⟩
  | inr q => exact hE
theorem cb_173_86 {X : Nat → Option zz_C} {h : zz_H} {t : cS} {s : mS} {d : Nat} {Q : zz_O → zz_H → Prop}  (hR : kR h t s) {w0 : Nat} (e0 : (kP t 2 1) = some w0) (e1 : w0 = 12 ∨ w0 = 21) (k : ∀ {h : zz_H}, kR h t s → zz_J zp_P zt_tf zt_fd X d zm_207 0 [(0, .ref w0), (1, .int (kI t 2 4))] [] h (zz_after 6 Q (fun v h' => zz_J zp_P zt_tf zt_fd X (d + 1) zm_173 97 [(0, .ref 2)] (v.toList ++ []) h' Q))) : zz_J zp_P zt_tf zt_fd X (d + 1) zm_173 86 [(0, .ref 2)] [] h Q := by
  refine zz_J.n 87 rfl rfl rfl ?_
  refine zz_J.g 90 rfl (hR.gv (v := .ref w0) ko_2 (by decide) ((congrArg (fun q => some (zz_rv q)) e0).trans rfl)) rfl ?_
  refine zz_J.n 91 rfl rfl rfl ?_
  refine zz_J.g 94 rfl (hR.gv (v := .int (kI t 2 4)) ko_2 (by decide) rfl) rfl ?_
  refine zz_J.cv 97 (as := []) rfl rfl (hR.clO (ko_P e1) (by decide) (by decide)) (by decide) (Nat.le_of_ble_eq_true rfl) (Nat.le_of_ble_eq_true rfl) rfl (Nat.le_of_ble_eq_true rfl) rfl ?_
  refine zz_J.mono (k hR) ?_
  intro o h' hE
  cases o with
  | inl v => exact zz_J.weak hE rfl ⟨rfl, trivial⟩
  | inr q => exact hE
theorem cb_173_97 {X : Nat → Option zz_C} {h : zz_H} {t : cS} {s : mS} {d : Nat} {Q : zz_O → zz_H → Prop}  (hR : kR h t s) (k : ∀ {h : zz_H}, kR h t s → zz_J zp_P zt_tf zt_fd X d zm_176 0 [(0, .ref 2)] [] h (zz_after 5 Q (fun v h' => zz_J zp_P zt_tf zt_fd X (d + 1) zm_173 101 [(0, .ref 2)] (v.toList ++ []) h' Q))) : zz_J zp_P zt_tf zt_fd X (d + 1) zm_173 97 [(0, .ref 2)] [] h Q := by
  refine zz_J.n 98 rfl rfl rfl ?_
  refine zz_J.cv 101 (as := []) rfl rfl (hR.clO ko_2 (by decide) (by decide)) (by decide) (Nat.le_of_ble_eq_true rfl) (Nat.le_of_ble_eq_true rfl) rfl (Nat.le_of_ble_eq_true rfl) rfl ?_
  refine zz_J.mono (k hR) ?_
  intro o h' hE
  cases o with
  | inl v => exact zz_J.weak hE rfl ⟨rfl, trivial⟩
  | inr q => exact hE
theorem cb_173_101 {X : Nat → Option zz_C} {h : zz_H} {t : cS} {s : mS} {d : Nat} {Q : zz_O → zz_H → Prop}  (hR : kR h t s) {w0 : Nat} (e0 : (kP t 2 1) = some w0) (e1 : w0 = 12 ∨ w0 = 21) (k : ∀ {h : zz_H}, kR h t s → zz_J zp_P zt_tf zt_fd X d zm_208 0 [(0, .ref w0), (1, .int (kI t 2 4))] [] h (zz_after 6 Q (fun v h' => zz_J zp_P zt_tf zt_fd X (d + 1) zm_173 112 [(0, .ref 2)] (v.toList ++ []) h' Q))) : zz_J zp_P zt_tf zt_fd X (d + 1) zm_173 101 [(0, .ref 2)] [] h Q := by
  refine zz_J.n 102 rfl rfl rfl ?_
  refine zz_J.g 105 rfl (hR.gv (v := .ref w0) ko_2 (by decide) ((congrArg (fun q => some (zz_rv q)) e0).trans rfl)) rfl ?_
  refine zz_J.n 106 rfl rfl rfl ?_
  refine zz_J.g 109 rfl (hR.gv (v := .int (kI t 2 4)) ko_2 (by decide) rfl) rfl ?_
  refine zz_J.cv 112 (as := []) rfl rfl (hR.clO (ko_P e1) (by decide) (by decide)) (by decide) (Nat.le_of_ble_eq_true rfl) (Nat.le_of_ble_eq_true rfl) rfl (Nat.le_of_ble_eq_true rfl) rfl ?_
  refine zz_J.mono (k hR) ?_
  intro o h' hE
  cases o with
  | inl v => exact zz_J.weak hE rfl ⟨rfl, trivial⟩
  | inr q => exact hE
theorem cb_173_112 {X : Nat → Option zz_C} {h : zz_H} {t : cS} {s : mS} {d : Nat} {Q : zz_O → zz_H → Prop}  (hR : kR h t s) {w0 : Nat} (e0 : (kP t 2 1) = some w0) (e1 : w0 = 12 ∨ w0 = 21) (k : ∀ {h : zz_H}, kR h t s → zz_J zp_P zt_tf zt_fd X d zm_209 0 [(0, .ref w0), (1, .int 0), (2, .int 0), (3, .int 0)] [] h (zz_after 6 Q (fun v h' => zz_J zp_P zt_tf zt_fd X (d + 1) zm_173 122 [(0, .ref 2)] (v.toList ++ []) h' Q))) : zz_J zp_P zt_tf zt_fd X (d + 1) zm_173 112 [(0, .ref 2)] [] h Q := by
  refine zz_J.n 113 rfl rfl rfl ?_
  refine zz_J.g 116 rfl (hR.gv (v := .ref w0) ko_2 (by decide) ((congrArg (fun q => some (zz_rv q)) e0).trans rfl)) rfl ?_
  refine zz_J.c 117 (.int 0) rfl rfl rfl rfl ?_
  refine zz_J.c 118 (.int 0) rfl rfl rfl rfl ?_
  refine zz_J.c 119 (.int 0) rfl rfl rfl rfl ?_
  refine zz_J.cv 122 (as := []) rfl rfl (hR.clO (ko_P e1) (by decide) (by decide)) (by decide) (Nat.le_of_ble_eq_true rfl) (Nat.le_of_ble_eq_true rfl) rfl (Nat.le_of_ble_eq_true rfl) rfl ?_
  refine zz_J.mono (k hR) ?_
  intro o h' hE
  cases o with
  | inl v => exact zz_J.weak hE rfl ⟨rfl, trivial⟩
  | inr q => exact hE
theorem cb_173_122 {X : Nat → Option zz_C} {h : zz_H} {t : cS} {s : mS} {d : Nat} {Q : zz_O → zz_H → Prop} {y0 : Int32} (hR : kR h t s) {w0 : Nat} (e0 : (kP t 2 1) = some w0) (e1 : w0 = 12 ∨ w0 = 21) (k : ∀ {h : zz_H}, kR h t s → zz_J zp_P zt_tf zt_fd X d zm_209 0 [(0, .ref w0), (1, .int 8), (2, .int 0), (3, .int 0)] [] h (zz_after 6 Q (fun v h' => zz_J zp_P zt_tf zt_fd X (d + 1) zm_173 134 [] (v.toList ++ []) h' Q))) : zz_J zp_P zt_tf zt_fd X (d + 1) zm_173 122 [(0, .ref 2)] [.int y0] h Q := by
  refine zz_J.n 123 rfl rfl rfl ?_
  refine zz_J.n 124 rfl rfl rfl ?_
  refine zz_J.g 127 rfl (hR.gv (v := .ref w0) ko_2 (by decide) ((congrArg (fun q => some (zz_rv q)) e0).trans rfl)) rfl ?_
  refine zz_J.c 129 (.int 8) rfl rfl rfl rfl ?_
  refine zz_J.c 130 (.int 0) rfl rfl rfl rfl ?_
  refine zz_J.c 131 (.int 0) rfl rfl rfl rfl ?_
  refine zz_J.cv 134 (as := []) rfl rfl (hR.clO (ko_P e1) (by decide) (by decide)) (by decide) (Nat.le_of_ble_eq_true rfl) (Nat.le_of_ble_eq_true rfl) rfl (Nat.le_of_ble_eq_true rfl) rfl ?_
  refine zz_J.mono (k hR) ?_
  intro o h' hE
  cases o with
  | inl v => exact zz_J.weak hE rfl trivial
  | inr q => exact hE
theorem cb_173_134 {X : Nat → Option zz_C} {h : zz_H} {t : cS} {s : mS} {d : Nat} {Q : zz_O → zz_H → Prop} {y0 : Int32} (hR : kR h t s) (k : ∀ {h : zz_H}, kR h t s → Q (.inl none) h) : zz_J zp_P zt_tf zt_fd X d zm_173 134 [] [.int y0] h Q := by
  refine zz_J.n 135 rfl rfl rfl ?_
  refine zz_J.ret rfl rfl rfl ?_
  exact k hR
def cf_173_134 (N : Nat) (X : Nat → Option zz_C) (y0 : Int32) (t : cS) : kO := some (t, .inl none)
theorem cr_173_134 {X : Nat → Option zz_C} {s : mS} {N : Nat} {d : Nat} (hd : 313 ≤ d) {Q : zz_O → zz_H → Prop} {y0 : Int32} {h : zz_H} {t t' : cS} {o : kY} (hR : kR h t s) (hf : cf_173_134 N X y0 t = some (t', o)) (k : (∀ h', kR h' t' s → kE o Q h')) : zz_J zp_P zt_tf zt_fd X d zm_173 134 [] [.int y0] h Q := by
  unfold cf_173_134 at hf
  cases hf
  exact cb_173_134 hR  (fun {h} hR => k h hR)
def cf_173_122 (N : Nat) (X : Nat → Option zz_C) (y0 : Int32) (t : cS) : kO := co_b ((kP t 2 1)) (fun w0 => if w0 = 12 ∨ w0 = 21 then (ko_call 6 (cf_209 N X w0 8 0 0 t) (fun g1 v1 => co_i v1 (fun y => cf_173_134 N X y g1))) else none)
theorem cr_173_122 {X : Nat → Option zz_C} {s : mS} {N : Nat} {d : Nat} (hd : 313 ≤ d) {Q : zz_O → zz_H → Prop} {y0 : Int32} {h : zz_H} {t t' : cS} {o : kY} (hR : kR h t s) (hf : cf_173_122 N X y0 t = some (t', o)) (k : (∀ h', kR h' t' s → kE o Q h')) : zz_J zp_P zt_tf zt_fd X d zm_173 122 [(0, .ref 2)] [.int y0] h Q := by
  unfold cf_173_122 at hf
  obtain ⟨w0, e0, hf⟩ := co_b_ok hf
  obtain ⟨e1, hf⟩ := ko_if hf
  obtain ⟨d', rfl⟩ : ∃ d', d = d' + 1 := ⟨d - 1, by omega⟩
  refine cb_173_122 hR e0 e1 (fun {h} hR => ?_)
  rcases ko_call_ok hf with ⟨g1, v1, er, hf⟩ | ⟨g1, er, hq⟩
  · obtain ⟨y, hv, hf2⟩ := co_i_ok hf
    clear hf
    have hf := hf2
    clear hf2
    subst hv
    refine cr_209 (by omega) hR er (fun h hR => ?_)
    exact cr_173_134 hd hR hf k
  · refine cr_209 (by omega) hR er (fun h hR => ?_)
    exact ko_thrown hq hR k
def cf_173_112 (N : Nat) (X : Nat → Option zz_C)  (t : cS) : kO := co_b ((kP t 2 1)) (fun w0 => if w0 = 12 ∨ w0 = 21 then (ko_call 6 (cf_209 N X w0 0 0 0 t) (fun g1 v1 => co_i v1 (fun y => cf_173_122 N X y g1))) else none)
theorem cr_173_112 {X : Nat → Option zz_C} {s : mS} {N : Nat} {d : Nat} (hd : 313 ≤ d) {Q : zz_O → zz_H → Prop}  {h : zz_H} {t t' : cS} {o : kY} (hR : kR h t s) (hf : cf_173_112 N X  t = some (t', o)) (k : (∀ h', kR h' t' s → kE o Q h')) : zz_J zp_P zt_tf zt_fd X d zm_173 112 [(0, .ref 2)] [] h Q := by
  unfold cf_173_112 at hf
  obtain ⟨w0, e0, hf⟩ := co_b_ok hf
  obtain ⟨e1, hf⟩ := ko_if hf
  obtain ⟨d', rfl⟩ : ∃ d', d = d' + 1 := ⟨d - 1, by omega⟩
  refine cb_173_112 hR e0 e1 (fun {h} hR => ?_)
  rcases ko_call_ok hf with ⟨g1, v1, er, hf⟩ | ⟨g1, er, hq⟩
  · obtain ⟨y, hv, hf2⟩ := co_i_ok hf
    clear hf
    have hf := hf2
    clear hf2
    subst hv
    refine cr_209 (by omega) hR er (fun h hR => ?_)
    exact cr_173_122 hd hR hf k
  · refine cr_209 (by omega) hR er (fun h hR => ?_)
    exact ko_thrown hq hR k
def cf_173_101 (N : Nat) (X : Nat → Option zz_C)  (t : cS) : kO := co_b ((kP t 2 1)) (fun w0 => if w0 = 12 ∨ w0 = 21 then (ko_call 6 (cf_208 N X w0 (kI t 2 4) t) (fun g1 v1 => co_v v1 (cf_173_112 N X  g1))) else none)
theorem cr_173_101 {X : Nat → Option zz_C} {s : mS} {N : Nat} {d : Nat} (hd : 313 ≤ d) {Q : zz_O → zz_H → Prop}  {h : zz_H} {t t' : cS} {o : kY} (hR : kR h t s) (hf : cf_173_101 N X  t = some (t', o)) (k : (∀ h', kR h' t' s → kE o Q h')) : zz_J zp_P zt_tf zt_fd X d zm_173 101 [(0, .ref 2)] [] h Q := by
  unfold cf_173_101 at hf
  obtain ⟨w0, e0, hf⟩ := co_b_ok hf
  obtain ⟨e1, hf⟩ := ko_if hf
  obtain ⟨d', rfl⟩ : ∃ d', d = d' + 1 := ⟨d - 1, by omega⟩
  refine cb_173_101 hR e0 e1 (fun {h} hR => ?_)
  rcases ko_call_ok hf with ⟨g1, v1, er, hf⟩ | ⟨g1, er, hq⟩
  · obtain ⟨hv, hf2⟩ := co_v_ok hf
    clear hf
    have hf := hf2
    clear hf2
    subst hv
    refine cr_208 (by omega) hR er (fun h hR => ?_)
    exact cr_173_112 hd hR hf k
  · refine cr_208 (by omega) hR er (fun h hR => ?_)
    exact ko_thrown hq hR k
def cf_173_97 (N : Nat) (X : Nat → Option zz_C)  (t : cS) : kO := ko_call 5 (cf_S1 N X 150 176 [] t) (fun g1 v1 => co_v v1 (cf_173_101 N X  g1))
theorem cr_173_97 {X : Nat → Option zz_C} {s : mS} {N : Nat} {d : Nat} (hd : 313 ≤ d) {Q : zz_O → zz_H → Prop}  {h : zz_H} {t t' : cS} {o : kY} (hR : kR h t s) (hf : cf_173_97 N X  t = some (t', o)) (k : (∀ h', kR h' t' s → kE o Q h')) : zz_J zp_P zt_tf zt_fd X d zm_173 97 [(0, .ref 2)] [] h Q := by
  unfold cf_173_97 at hf
  obtain ⟨d', rfl⟩ : ∃ d', d = d' + 1 := ⟨d - 1, by omega⟩
  refine cb_173_97 hR  (fun {h} hR => ?_)
  rcases ko_call_ok hf with ⟨g1, v1, er, hf⟩ | ⟨g1, er, hq⟩
  · obtain ⟨hv, hf2⟩ := co_v_ok hf
    clear hf
    have hf := hf2
    clear hf2
    subst hv
    refine (cr_S1 150).1 (by omega) hR er (fun h hR => ?_)
    exact cr_173_101 hd hR hf k
  · refine (cr_S1 150).1 (by omega) hR er (fun h hR => ?_)
    exact ko_thrown hq hR k
def cf_173_86 (N : Nat) (X : Nat → Option zz_C)  (t : cS) : kO := co_b ((kP t 2 1)) (fun w0 => if w0 = 12 ∨ w0 = 21 then (ko_call 6 (cf_207 N X w0 (kI t 2 4) t) (fun g1 v1 => co_v v1 (cf_173_97 N X  g1))) else none)
theorem cr_173_86 {X : Nat → Option zz_C} {s : mS} {N : Nat} {d : Nat} (hd : 313 ≤ d) {Q : zz_O → zz_H → Prop}  {h : zz_H} {t t' : cS} {o : kY} (hR : kR h t s) (hf : cf_173_86 N X  t = some (t', o)) (k : (∀ h', kR h' t' s → kE o Q h')) : zz_J zp_P zt_tf zt_fd X d zm_173 86 [(0, .ref 2)] [] h Q := by
  unfold cf_173_86 at hf
  obtain ⟨w0, e0, hf⟩ := co_b_ok hf
  obtain ⟨e1, hf⟩ := ko_if hf
  obtain ⟨d', rfl⟩ : ∃ d', d = d' + 1 := ⟨d - 1, by omega⟩
  refine cb_173_86 hR e0 e1 (fun {h} hR => ?_)
  rcases ko_call_ok hf with ⟨g1, v1, er, hf⟩ | ⟨g1, er, hq⟩
  · obtain ⟨hv, hf2⟩ := co_v_ok hf
    clear hf
    have hf := hf2
    clear hf2
    subst hv
    refine cr_207 (by omega) hR er (fun h hR => ?_)
    exact cr_173_97 hd hR hf k
  · refine cr_207 (by omega) hR er (fun h hR => ?_)
    exact ko_thrown hq hR k
def cf_173_80 (N : Nat) (X : Nat → Option zz_C)  (t : cS) : kO := ko_call 5 (cf_201 N X 41 t) (fun g1 v1 => co_v v1 (cf_173_86 N X  g1))
theorem cr_173_80 {X : Nat → Option zz_C} {s : mS} {N : Nat} {d : Nat} (hd : 313 ≤ d) {Q : zz_O → zz_H → Prop}  {h : zz_H} {t t' : cS} {o : kY} (hR : kR h t s) (hf : cf_173_80 N X  t = some (t', o)) (k : (∀ h', kR h' t' s → kE o Q h')) : zz_J zp_P zt_tf zt_fd X d zm_173 80 [(0, .ref 2)] [] h Q := by
  unfold cf_173_80 at hf
  obtain ⟨d', rfl⟩ : ∃ d', d = d' + 1 := ⟨d - 1, by omega⟩
  refine cb_173_80 hR  (fun {h} hR => ?_)
  rcases ko_call_ok hf with ⟨g1, v1, er, hf⟩ | ⟨g1, er, hq⟩
  · obtain ⟨hv, hf2⟩ := co_v_ok hf
    clear hf
    have hf := hf2
    clear hf2
    subst hv
    refine cr_201 (by omega) hR er (fun h hR => ?_)
    exact cr_173_86 hd hR hf k
  · refine cr_201 (by omega) hR er (fun h hR => ?_)
    exact ko_thrown hq hR k
def cf_173_74 (N : Nat) (X : Nat → Option zz_C) (rc : Nat → Int32 → cS → kO) (x1 : Int32) (t : cS) : kO := rc 0 (x1 + 1) t
theorem cr_173_74 {X : Nat → Option zz_C} {s : mS} {N : Nat} {d : Nat} (hd : 313 ≤ d) {rc : Nat → Int32 → cS → kO} (hrc0 : ∀ {Q : zz_O → zz_H → Prop} {x1 : Int32} {h : zz_H} {t t' : cS} {o : kY}, kR h t s → rc 0 x1 t = some (t', o) → (∀ h', kR h' t' s → kE o Q h') → zz_J zp_P zt_tf zt_fd X d zm_173 40 [(0, .ref 2), (1, .int x1)] [] h Q) {Q : zz_O → zz_H → Prop} {x1 : Int32} {h : zz_H} {t t' : cS} {o : kY} (hR : kR h t s) (hf : cf_173_74 N X rc x1 t = some (t', o)) (k : (∀ h', kR h' t' s → kE o Q h')) : zz_J zp_P zt_tf zt_fd X d zm_173 74 [(0, .ref 2), (1, .int x1)] [] h Q := by
  unfold cf_173_74 at hf
  exact cb_173_74 hR  (fun hR => hrc0 hR hf k)
def cf_173_70 (N : Nat) (X : Nat → Option zz_C) (rc : Nat → Int32 → cS → kO) (x1 : Int32) (t : cS) : kO := ko_call 5 (cf_175 N X  t) (fun g1 v1 => co_v v1 (cf_173_74 N X rc x1 g1))
theorem cr_173_70 {X : Nat → Option zz_C} {s : mS} {N : Nat} {d : Nat} (hd : 313 ≤ d) {rc : Nat → Int32 → cS → kO} (hrc0 : ∀ {Q : zz_O → zz_H → Prop} {x1 : Int32} {h : zz_H} {t t' : cS} {o : kY}, kR h t s → rc 0 x1 t = some (t', o) → (∀ h', kR h' t' s → kE o Q h') → zz_J zp_P zt_tf zt_fd X d zm_173 40 [(0, .ref 2), (1, .int x1)] [] h Q) {Q : zz_O → zz_H → Prop} {x1 : Int32} {h : zz_H} {t t' : cS} {o : kY} (hR : kR h t s) (hf : cf_173_70 N X rc x1 t = some (t', o)) (k : (∀ h', kR h' t' s → kE o Q h')) : zz_J zp_P zt_tf zt_fd X d zm_173 70 [(0, .ref 2), (1, .int x1)] [] h Q := by
  unfold cf_173_70 at hf
  obtain ⟨d', rfl⟩ : ∃ d', d = d' + 1 := ⟨d - 1, by omega⟩
  refine cb_173_70 hR  (fun {h} hR => ?_)
  rcases ko_call_ok hf with ⟨g1, v1, er, hf⟩ | ⟨g1, er, hq⟩
  · obtain ⟨hv, hf2⟩ := co_v_ok hf
    clear hf
    have hf := hf2
    clear hf2
    subst hv
    refine cr_175 (by omega) hR er (fun h hR => ?_)
    exact cr_173_74 hd hrc0 hR hf k
  · refine cr_175 (by omega) hR er (fun h hR => ?_)
    exact ko_thrown hq hR k
def cf_173_63 (N : Nat) (X : Nat → Option zz_C) (rc : Nat → Int32 → cS → kO) (x1 : Int32) (t : cS) : kO := ko_call 10 (cf_46 N X  t) (fun g1 v1 => co_v v1 (cf_173_70 N X rc x1 g1))
theorem cr_173_63 {X : Nat → Option zz_C} {s : mS} {N : Nat} {d : Nat} (hd : 313 ≤ d) {rc : Nat → Int32 → cS → kO} (hrc0 : ∀ {Q : zz_O → zz_H → Prop} {x1 : Int32} {h : zz_H} {t t' : cS} {o : kY}, kR h t s → rc 0 x1 t = some (t', o) → (∀ h', kR h' t' s → kE o Q h') → zz_J zp_P zt_tf zt_fd X d zm_173 40 [(0, .ref 2), (1, .int x1)] [] h Q) {Q : zz_O → zz_H → Prop} {x1 : Int32} {h : zz_H} {t t' : cS} {o : kY} (hR : kR h t s) (hf : cf_173_63 N X rc x1 t = some (t', o)) (k : (∀ h', kR h' t' s → kE o Q h')) : zz_J zp_P zt_tf zt_fd X d zm_173 63 [(0, .ref 2), (1, .int x1)] [] h Q := by
  unfold cf_173_63 at hf
  obtain ⟨d', rfl⟩ : ∃ d', d = d' + 1 := ⟨d - 1, by omega⟩
  refine cb_173_63 hR  (fun {h} hR => ?_)
  rcases ko_call_ok hf with ⟨g1, v1, er, hf⟩ | ⟨g1, er, hq⟩
  · obtain ⟨hv, hf2⟩ := co_v_ok hf
    clear hf
    have hf := hf2
    clear hf2
    subst hv
    refine cr_46 (by omega) hR er (fun h hR => ?_)
    exact cr_173_70 hd hrc0 hR hf k
  · refine cr_46 (by omega) hR er (fun h hR => ?_)
    exact ko_thrown hq hR k
def cf_173_58 (N : Nat) (X : Nat → Option zz_C) (rc : Nat → Int32 → cS → kO) (x1 : Int32) (y0 : Int32) (t : cS) : kO := if ¬ y0 = 44 then cf_173_80 N X  t else cf_173_63 N X rc x1 t
theorem cr_173_58 {X : Nat → Option zz_C} {s : mS} {N : Nat} {d : Nat} (hd : 313 ≤ d) {rc : Nat → Int32 → cS → kO} (hrc0 : ∀ {Q : zz_O → zz_H → Prop} {x1 : Int32} {h : zz_H} {t t' : cS} {o : kY}, kR h t s → rc 0 x1 t = some (t', o) → (∀ h', kR h' t' s → kE o Q h') → zz_J zp_P zt_tf zt_fd X d zm_173 40 [(0, .ref 2), (1, .int x1)] [] h Q) {Q : zz_O → zz_H → Prop} {x1 : Int32} {y0 : Int32} {h : zz_H} {t t' : cS} {o : kY} (hR : kR h t s) (hf : cf_173_58 N X rc x1 y0 t = some (t', o)) (k : (∀ h', kR h' t' s → kE o Q h')) : zz_J zp_P zt_tf zt_fd X d zm_173 58 [(0, .ref 2), (1, .int x1)] [.int y0] h Q := by
  unfold cf_173_58 at hf
  refine cb_173_58 hR  (fun c {h} hR => ?_) (fun c {h} hR => ?_)
  · rw [if_pos c] at hf
    exact cr_173_80 hd hR hf k
  · rw [if_neg c] at hf
    exact cr_173_63 hd hrc0 hR hf k
def cf_173_51 (N : Nat) (X : Nat → Option zz_C) (rc : Nat → Int32 → cS → kO) (x1 : Int32) (t : cS) : kO := ko_call 10 (cf_42 N X  t) (fun g1 v1 => co_i v1 (fun y => cf_173_58 N X rc x1 y g1))
theorem cr_173_51 {X : Nat → Option zz_C} {s : mS} {N : Nat} {d : Nat} (hd : 313 ≤ d) {rc : Nat → Int32 → cS → kO} (hrc0 : ∀ {Q : zz_O → zz_H → Prop} {x1 : Int32} {h : zz_H} {t t' : cS} {o : kY}, kR h t s → rc 0 x1 t = some (t', o) → (∀ h', kR h' t' s → kE o Q h') → zz_J zp_P zt_tf zt_fd X d zm_173 40 [(0, .ref 2), (1, .int x1)] [] h Q) {Q : zz_O → zz_H → Prop} {x1 : Int32} {h : zz_H} {t t' : cS} {o : kY} (hR : kR h t s) (hf : cf_173_51 N X rc x1 t = some (t', o)) (k : (∀ h', kR h' t' s → kE o Q h')) : zz_J zp_P zt_tf zt_fd X d zm_173 51 [(0, .ref 2), (1, .int x1)] [] h Q := by
  unfold cf_173_51 at hf
  obtain ⟨d', rfl⟩ : ∃ d', d = d' + 1 := ⟨d - 1, by omega⟩
  refine cb_173_51 hR  (fun {h} hR => ?_)
  rcases ko_call_ok hf with ⟨g1, v1, er, hf⟩ | ⟨g1, er, hq⟩
  · obtain ⟨y, hv, hf2⟩ := co_i_ok hf
    clear hf
    have hf := hf2
    clear hf2
    subst hv
    refine cr_42 (by omega) hR er (fun h hR => ?_)
    exact cr_173_58 hd hrc0 hR hf k
  · refine cr_42 (by omega) hR er (fun h hR => ?_)
    exact ko_thrown hq hR k
def cf_173_48 (N : Nat) (X : Nat → Option zz_C) (rc : Nat → Int32 → cS → kO) (x1 : Int32) (y0 : Int32) (y1 : Int32) (t : cS) : kO := if y1 ≤ y0 then cf_173_80 N X  t else cf_173_51 N X rc x1 t
theorem cr_173_48 {X : Nat → Option zz_C} {s : mS} {N : Nat} {d : Nat} (hd : 313 ≤ d) {rc : Nat → Int32 → cS → kO} (hrc0 : ∀ {Q : zz_O → zz_H → Prop} {x1 : Int32} {h : zz_H} {t t' : cS} {o : kY}, kR h t s → rc 0 x1 t = some (t', o) → (∀ h', kR h' t' s → kE o Q h') → zz_J zp_P zt_tf zt_fd X d zm_173 40 [(0, .ref 2), (1, .int x1)] [] h Q) {Q : zz_O → zz_H → Prop} {x1 : Int32} {y0 : Int32} {y1 : Int32} {h : zz_H} {t t' : cS} {o : kY} (hR : kR h t s) (hf : cf_173_48 N X rc x1 y0 y1 t = some (t', o)) (k : (∀ h', kR h' t' s → kE o Q h')) : zz_J zp_P zt_tf zt_fd X d zm_173 48 [(0, .ref 2), (1, .int x1)] [.int y1, .int y0] h Q := by
  unfold cf_173_48 at hf
  refine cb_173_48 hR  (fun c {h} hR => ?_) (fun c {h} hR => ?_)
  · rw [if_pos c] at hf
    exact cr_173_80 hd hR hf k
  · rw [if_neg c] at hf
    exact cr_173_51 hd hrc0 hR hf k
def cf_173_40 (N : Nat) (X : Nat → Option zz_C) (rc : Nat → Int32 → cS → kO) (x1 : Int32) (t : cS) : kO := ko_call 10 (cf_41 N X  t) (fun g1 v1 => co_i v1 (fun y => cf_173_48 N X rc x1 x1 y g1))
theorem cr_173_40 {X : Nat → Option zz_C} {s : mS} {N : Nat} {d : Nat} (hd : 313 ≤ d) {rc : Nat → Int32 → cS → kO} (hrc0 : ∀ {Q : zz_O → zz_H → Prop} {x1 : Int32} {h : zz_H} {t t' : cS} {o : kY}, kR h t s → rc 0 x1 t = some (t', o) → (∀ h', kR h' t' s → kE o Q h') → zz_J zp_P zt_tf zt_fd X d zm_173 40 [(0, .ref 2), (1, .int x1)] [] h Q) {Q : zz_O → zz_H → Prop} {x1 : Int32} {h : zz_H} {t t' : cS} {o : kY} (hR : kR h t s) (hf : cf_173_40 N X rc x1 t = some (t', o)) (k : (∀ h', kR h' t' s → kE o Q h')) : zz_J zp_P zt_tf zt_fd X d zm_173 40 [(0, .ref 2), (1, .int x1)] [] h Q := by
  unfold cf_173_40 at hf
  obtain ⟨d', rfl⟩ : ∃ d', d = d' + 1 := ⟨d - 1, by omega⟩
  refine cb_173_40 hR  (fun {h} hR => ?_)
  rcases ko_call_ok hf with ⟨g1, v1, er, hf⟩ | ⟨g1, er, hq⟩
  · obtain ⟨y, hv, hf2⟩ := co_i_ok hf
    clear hf
    have hf := hf2
    clear hf2
    subst hv
    refine cr_41 (by omega) hR er (fun h hR => ?_)
    exact cr_173_48 hd hrc0 hR hf k
  · refine cr_41 (by omega) hR er (fun h hR => ?_)
    exact ko_thrown hq hR k
def cf_173_L7 (N : Nat) (X : Nat → Option zz_C) : Nat → Nat → Int32 → cS → kO
  | 0, _, _, _ => none
  | n + 1, l, x1, t => if l = 0 then cf_173_40 N X (cf_173_L7 N X n) x1 t else none
theorem cr_173_L7 {X : Nat → Option zz_C} {s : mS} {N : Nat} {d : Nat} (hd : 313 ≤ d) : ∀ n : Nat, (∀ {Q : zz_O → zz_H → Prop} {x1 : Int32} {h : zz_H} {t t' : cS} {o : kY}, kR h t s → cf_173_L7 N X n 0 x1 t = some (t', o) → (∀ h', kR h' t' s → kE o Q h') → zz_J zp_P zt_tf zt_fd X d zm_173 40 [(0, .ref 2), (1, .int x1)] [] h Q) := by
  intro n
  induction n with
  | zero => exact (fun _ hf _ => by cases hf)
  | succ n ih =>
    have h0 := @ih
    intro Q _ h t t' o hR hf k
    unfold cf_173_L7 at hf
    rw [if_pos rfl] at hf
    exact cr_173_40 hd h0 hR hf k
def cf_173_38 (N : Nat) (X : Nat → Option zz_C)  (t : cS) : kO := cf_173_L7 N X N 0 0 t
theorem cr_173_38 {X : Nat → Option zz_C} {s : mS} {N : Nat} {d : Nat} (hd : 313 ≤ d) {Q : zz_O → zz_H → Prop}  {h : zz_H} {t t' : cS} {o : kY} (hR : kR h t s) (hf : cf_173_38 N X  t = some (t', o)) (k : (∀ h', kR h' t' s → kE o Q h')) : zz_J zp_P zt_tf zt_fd X d zm_173 38 [(0, .ref 2)] [] h Q := by
  unfold cf_173_38 at hf
  exact cb_173_38 hR  (fun hR => cr_173_L7 hd N hR hf k)
def cf_173_34 (N : Nat) (X : Nat → Option zz_C)  (t : cS) : kO := ko_call 5 (cf_175 N X  t) (fun g1 v1 => co_v v1 (cf_173_38 N X  g1))
theorem cr_173_34 {X : Nat → Option zz_C} {s : mS} {N : Nat} {d : Nat} (hd : 313 ≤ d) {Q : zz_O → zz_H → Prop}  {h : zz_H} {t t' : cS} {o : kY} (hR : kR h t s) (hf : cf_173_34 N X  t = some (t', o)) (k : (∀ h', kR h' t' s → kE o Q h')) : zz_J zp_P zt_tf zt_fd X d zm_173 34 [(0, .ref 2)] [] h Q := by
  unfold cf_173_34 at hf
  obtain ⟨d', rfl⟩ : ∃ d', d = d' + 1 := ⟨d - 1, by omega⟩
  refine cb_173_34 hR  (fun {h} hR => ?_)
  rcases ko_call_ok hf with ⟨g1, v1, er, hf⟩ | ⟨g1, er, hq⟩
  · obtain ⟨hv, hf2⟩ := co_v_ok hf
    clear hf
    have hf := hf2
    clear hf2
    subst hv
    refine cr_175 (by omega) hR er (fun h hR => ?_)
    exact cr_173_38 hd hR hf k
  · refine cr_175 (by omega) hR er (fun h hR => ?_)
    exact ko_thrown hq hR k
def cf_173_29 (N : Nat) (X : Nat → Option zz_C) (y0 : Int32) (t : cS) : kO := if y0 = 41 then cf_173_80 N X  t else cf_173_34 N X  t
theorem cr_173_29 {X : Nat → Option zz_C} {s : mS} {N : Nat} {d : Nat} (hd : 313 ≤ d) {Q : zz_O → zz_H → Prop} {y0 : Int32} {h : zz_H} {t t' : cS} {o : kY} (hR : kR h t s) (hf : cf_173_29 N X y0 t = some (t', o)) (k : (∀ h', kR h' t' s → kE o Q h')) : zz_J zp_P zt_tf zt_fd X d zm_173 29 [(0, .ref 2)] [.int y0] h Q := by
  unfold cf_173_29 at hf
  refine cb_173_29 hR  (fun c {h} hR => ?_) (fun c {h} hR => ?_)
  · rw [if_pos c] at hf
    exact cr_173_80 hd hR hf k
  · rw [if_neg c] at hf
    exact cr_173_34 hd hR hf k
def cf_173_17 (N : Nat) (X : Nat → Option zz_C)  (t : cS) : kO := ko_call 10 (cf_42 N X  (jI t 2 4 0)) (fun g1 v1 => co_i v1 (fun y => cf_173_29 N X y g1))
theorem cr_173_17 {X : Nat → Option zz_C} {s : mS} {N : Nat} {d : Nat} (hd : 313 ≤ d) {Q : zz_O → zz_H → Prop}  {h : zz_H} {t t' : cS} {o : kY} (hR : kR h t s) (hf : cf_173_17 N X  t = some (t', o)) (k : (∀ h', kR h' t' s → kE o Q h')) : zz_J zp_P zt_tf zt_fd X d zm_173 17 [(0, .ref 2)] [] h Q := by
  unfold cf_173_17 at hf
  obtain ⟨d', rfl⟩ : ∃ d', d = d' + 1 := ⟨d - 1, by omega⟩
  refine cb_173_17 hR  (fun {h} hR => ?_)
  rcases ko_call_ok hf with ⟨g1, v1, er, hf⟩ | ⟨g1, er, hq⟩
  · obtain ⟨y, hv, hf2⟩ := co_i_ok hf
    clear hf
    have hf := hf2
    clear hf2
    subst hv
    refine cr_42 (by omega) hR er (fun h hR => ?_)
    exact cr_173_29 hd hR hf k
  · refine cr_42 (by omega) hR er (fun h hR => ?_)
    exact ko_thrown hq hR k
def cf_173_11 (N : Nat) (X : Nat → Option zz_C)  (t : cS) : kO := ko_call 5 (cf_201 N X 40 t) (fun g1 v1 => co_v v1 (cf_173_17 N X  g1))
theorem cr_173_11 {X : Nat → Option zz_C} {s : mS} {N : Nat} {d : Nat} (hd : 313 ≤ d) {Q : zz_O → zz_H → Prop}  {h : zz_H} {t t' : cS} {o : kY} (hR : kR h t s) (hf : cf_173_11 N X  t = some (t', o)) (k : (∀ h', kR h' t' s → kE o Q h')) : zz_J zp_P zt_tf zt_fd X d zm_173 11 [(0, .ref 2)] [] h Q := by
  unfold cf_173_11 at hf
  obtain ⟨d', rfl⟩ : ∃ d', d = d' + 1 := ⟨d - 1, by omega⟩
  refine cb_173_11 hR  (fun {h} hR => ?_)
  rcases ko_call_ok hf with ⟨g1, v1, er, hf⟩ | ⟨g1, er, hq⟩
  · obtain ⟨hv, hf2⟩ := co_v_ok hf
    clear hf
    have hf := hf2
    clear hf2
    subst hv
    refine cr_201 (by omega) hR er (fun h hR => ?_)
    exact cr_173_17 hd hR hf k
  · refine cr_201 (by omega) hR er (fun h hR => ?_)
    exact ko_thrown hq hR k
def cf_173_7 (N : Nat) (X : Nat → Option zz_C)  (t : cS) : kO := ko_call 5 (cf_174 N X  t) (fun g1 v1 => co_v v1 (cf_173_11 N X  g1))
theorem cr_173_7 {X : Nat → Option zz_C} {s : mS} {N : Nat} {d : Nat} (hd : 313 ≤ d) {Q : zz_O → zz_H → Prop}  {h : zz_H} {t t' : cS} {o : kY} (hR : kR h t s) (hf : cf_173_7 N X  t = some (t', o)) (k : (∀ h', kR h' t' s → kE o Q h')) : zz_J zp_P zt_tf zt_fd X d zm_173 7 [(0, .ref 2)] [] h Q := by
  unfold cf_173_7 at hf
  obtain ⟨d', rfl⟩ : ∃ d', d = d' + 1 := ⟨d - 1, by omega⟩
  refine cb_173_7 hR  (fun {h} hR => ?_)
  rcases ko_call_ok hf with ⟨g1, v1, er, hf⟩ | ⟨g1, er, hq⟩
  · obtain ⟨hv, hf2⟩ := co_v_ok hf
    clear hf
    have hf := hf2
    clear hf2
    subst hv
    refine cr_174 (by omega) hR er (fun h hR => ?_)
    exact cr_173_11 hd hR hf k
  · refine cr_174 (by omega) hR er (fun h hR => ?_)
    exact ko_thrown hq hR k
def cf_173_0 (N : Nat) (X : Nat → Option zz_C)  (t : cS) : kO := ko_call 5 (cf_200 N X (zz_out + 1) t) (fun g1 v1 => co_v v1 (cf_173_7 N X  g1))
theorem cr_173_0 {X : Nat → Option zz_C} {s : mS} {N : Nat} {d : Nat} (hd : 313 ≤ d) {Q : zz_O → zz_H → Prop}  {h : zz_H} {t t' : cS} {o : kY} (hR : kR h t s) (hf : cf_173_0 N X  t = some (t', o)) (k : (∀ h', kR h' t' s → kE o Q h')) : zz_J zp_P zt_tf zt_fd X d zm_173 0 [(0, .ref 2)] [] h Q := by
  unfold cf_173_0 at hf
  obtain ⟨d', rfl⟩ : ∃ d', d = d' + 1 := ⟨d - 1, by omega⟩
  refine cb_173_0 hR  (fun {h} hR => ?_)
  rcases ko_call_ok hf with ⟨g1, v1, er, hf⟩ | ⟨g1, er, hq⟩
  · obtain ⟨hv, hf2⟩ := co_v_ok hf
    clear hf
    have hf := hf2
    clear hf2
    subst hv
    refine cr_200 (by omega) hR er (fun h hR => ?_)
    exact cr_173_7 hd hR hf k
  · refine cr_200 (by omega) hR er (fun h hR => ?_)
    exact ko_thrown hq hR k
/-- oneFunction -/
def cf_173 (N : Nat) (X : Nat → Option zz_C)  (t : cS) : kO := cf_173_0 N X  t
theorem cr_173 {X : Nat → Option zz_C} {s : mS} {N : Nat} {d : Nat} (hd : 313 ≤ d) {Q : zz_O → zz_H → Prop}  {h : zz_H} {t t' : cS} {o : kY} (hR : kR h t s) (hf : cf_173 N X  t = some (t', o)) (k : ∀ h', kR h' t' s → kE o Q h') : zz_J zp_P zt_tf zt_fd X d zm_173 0 [(0, .ref 2)] [] h Q := by
  unfold cf_173 at hf
  exact zz_J.weak (cr_173_0 hd hR hf k) rfl ⟨rfl, trivial⟩
/-! yX6_empty ()V -/
theorem cb_31_0 {X : Nat → Option zz_C} {h : zz_H} {t : cS} {s : mS} {d : Nat} {Q : zz_O → zz_H → Prop} {x0 : Nat} (hR : kR h t s) (e0 : x0 = 12 ∨ x0 = 21) (k : ∀ {h : zz_H}, kR h (jI (jI t x0 3 0) x0 4 0) s → Q (.inl none) h) : zz_J zp_P zt_tf zt_fd X d zm_31 0 [(0, .ref x0)] [] h Q := by
  refine zz_J.n 1 rfl rfl rfl ?_
  refine zz_J.c 2 (.int 0) rfl rfl rfl rfl ?_
  obtain ⟨h1, eq1, hR⟩ := hR.pI (x := (0 : Int32)) (kP_lt e0) (ko_P e0) (kpi_P_3 e0 _) (Nat.le_of_ble_eq_true rfl) rfl
  refine zz_J.pv 5 rfl eq1 rfl ?_
  clear eq1
  refine zz_J.n 6 rfl rfl rfl ?_
  refine zz_J.c 7 (.int 0) rfl rfl rfl rfl ?_
  obtain ⟨h1, eq1, hR⟩ := hR.pI (x := (0 : Int32)) (kP_lt e0) (ko_P e0) (kpi_P_4 e0 _) (Nat.le_of_ble_eq_true rfl) rfl
  refine zz_J.pv 10 rfl eq1 rfl ?_
  clear eq1
  refine zz_J.ret rfl rfl rfl ?_
  exact k hR
def cf_31_0 (N : Nat) (X : Nat → Option zz_C) (x0 : Nat) (t : cS) : kO := if x0 = 12 ∨ x0 = 21 then (some ((jI (jI t x0 3 0) x0 4 0), .inl none)) else none
theorem cr_31_0 {X : Nat → Option zz_C} {s : mS} {N : Nat} {d : Nat} (hd : 0 ≤ d) {Q : zz_O → zz_H → Prop} {x0 : Nat} {h : zz_H} {t t' : cS} {o : kY} (hR : kR h t s) (hf : cf_31_0 N X x0 t = some (t', o)) (k : (∀ h', kR h' t' s → kE o Q h')) : zz_J zp_P zt_tf zt_fd X d zm_31 0 [(0, .ref x0)] [] h Q := by
  unfold cf_31_0 at hf
  obtain ⟨e0, hf⟩ := ko_if hf
  cases hf
  exact cb_31_0 hR e0 (fun {h} hR => k h hR)
/-- empty -/
def cf_31 (N : Nat) (X : Nat → Option zz_C) (x0 : Nat) (t : cS) : kO := cf_31_0 N X x0 t
theorem cr_31 {X : Nat → Option zz_C} {s : mS} {N : Nat} {d : Nat} (hd : 0 ≤ d) {Q : zz_O → zz_H → Prop} {x0 : Nat} {h : zz_H} {t t' : cS} {o : kY} (hR : kR h t s) (hf : cf_31 N X x0 t = some (t', o)) (k : ∀ h', kR h' t' s → kE o Q h') : zz_J zp_P zt_tf zt_fd X d zm_31 0 [(0, .ref x0)] [] h Q := by
  unfold cf_31 at hf
  exact zz_J.weak (cr_31_0 hd hR hf k) rfl ⟨rfl, trivial⟩
/-! yX6_told (II)I -/
theorem cb_33_0 {X : Nat → Option zz_C} {h : zz_H} {t : cS} {s : mS} {d : Nat} {Q : zz_O → zz_H → Prop} {x0 : Nat} {x1 : Int32} {x2 : Int32} (hR : kR h t s) (k1 : x1 < 0 → (∀ {h : zz_H}, kR h t s → zz_J zp_P zt_tf zt_fd X d zm_33 12 [] [] h Q)) (k2 : ¬ x1 < 0 → (∀ {h : zz_H}, kR h t s → zz_J zp_P zt_tf zt_fd X d zm_33 4 [(0, .ref x0), (1, .int x1), (2, .int x2)] [] h Q)) : zz_J zp_P zt_tf zt_fd X d zm_33 0 [(0, .ref x0), (1, .int x1), (2, .int x2)] [] h Q := by
  refine zz_J.n 1 rfl rfl rfl ?_
  refine zz_J.b1 12 4 (A := x1 < 0) rfl rfl (by decide) rfl rfl (fun c => ?_) (fun c => ?_)
  · exact zz_J.weak (k1 c hR) rfl trivial
  · exact zz_J.weak (k2 c hR) rfl ⟨rfl, rfl, rfl, trivial⟩
theorem cb_33_4 {X : Nat → Option zz_C} {h : zz_H} {t : cS} {s : mS} {d : Nat} {Q : zz_O → zz_H → Prop} {x0 : Nat} {x1 : Int32} {x2 : Int32} (hR : kR h t s) (e0 : x0 = 12 ∨ x0 = 21) (k1 : x1 < (kI t x0 4) → (∀ {h : zz_H}, kR h t s → zz_J zp_P zt_tf zt_fd X d zm_33 14 [(0, .ref x0), (1, .int x1), (2, .int x2)] [] h Q)) (k2 : ¬ x1 < (kI t x0 4) → (∀ {h : zz_H}, kR h t s → zz_J zp_P zt_tf zt_fd X d zm_33 12 [] [] h Q)) : zz_J zp_P zt_tf zt_fd X d zm_33 4 [(0, .ref x0), (1, .int x1), (2, .int x2)] [] h Q := by
  refine zz_J.n 5 rfl rfl rfl ?_
  refine zz_J.n 6 rfl rfl rfl ?_
  refine zz_J.g 9 rfl (hR.gv (v := .int (kI t x0 4)) (ko_P e0) (by decide) rfl) rfl ?_
  refine zz_J.b2 14 12 (A := x1 < (kI t x0 4)) rfl rfl (by decide) rfl rfl (fun c => ?_) (fun c => ?_)
  · exact zz_J.weak (k1 c hR) rfl ⟨rfl, rfl, rfl, trivial⟩
  · exact zz_J.weak (k2 c hR) rfl trivial
theorem cb_33_12 {X : Nat → Option zz_C} {h : zz_H} {t : cS} {s : mS} {d : Nat} {Q : zz_O → zz_H → Prop}  (hR : kR h t s) (k : ∀ {h : zz_H}, kR h t s → Q (.inl (some (.int (-1)))) h) : zz_J zp_P zt_tf zt_fd X d zm_33 12 [] [] h Q := by
  refine zz_J.c 13 (.int (-1)) rfl rfl rfl rfl ?_
  refine zz_J.ret rfl rfl rfl ?_
  exact k hR
theorem cb_33_14 {X : Nat → Option zz_C} {h : zz_H} {t : cS} {s : mS} {d : Nat} {Q : zz_O → zz_H → Prop} {x0 : Nat} {x1 : Int32} {x2 : Int32} (hR : kR h t s) (c0 : x2 = 0 → (∀ {h : zz_H}, kR h t s → zz_J zp_P zt_tf zt_fd X d zm_33 40 [(0, .ref x0), (1, .int x1)] [] h Q)) (c1 : x2 = 1 → (∀ {h : zz_H}, kR h t s → zz_J zp_P zt_tf zt_fd X d zm_33 47 [(0, .ref x0), (1, .int x1)] [] h Q)) (c2 : x2 = 2 → (∀ {h : zz_H}, kR h t s → zz_J zp_P zt_tf zt_fd X d zm_33 54 [(0, .ref x0), (1, .int x1)] [] h Q)) (kd : (Int32.toInt x2 < 0 ∨ 2 < Int32.toInt x2) → (∀ {h : zz_H}, kR h t s → zz_J zp_P zt_tf zt_fd X d zm_33 61 [] [] h Q)) : zz_J zp_P zt_tf zt_fd X d zm_33 14 [(0, .ref x0), (1, .int x1), (2, .int x2)] [] h Q := by
  refine zz_J.n 15 rfl rfl rfl ?_
  by_cases hx : Int32.toInt x2 < 0 ∨ 2 < Int32.toInt x2
  · exact zz_J.td 61 rfl hx (by decide) rfl (zz_J.weak (kd hx hR) rfl trivial)
  · have hv : Int32.toInt x2 = 0 ∨ Int32.toInt x2 = 1 ∨ Int32.toInt x2 = 2 := by omega
    rcases hv with hv | hv | hv
    · have e : x2 = 0 := Int32.toInt_inj.mp (hv.trans rfl)
      exact zz_J.tv 40 rfl e rfl (zz_J.weak (c0 e hR) rfl ⟨rfl, rfl, trivial⟩)
    · have e : x2 = 1 := Int32.toInt_inj.mp (hv.trans rfl)
      exact zz_J.tv 47 rfl e rfl (zz_J.weak (c1 e hR) rfl ⟨rfl, rfl, trivial⟩)
    · have e : x2 = 2 := Int32.toInt_inj.mp (hv.trans rfl)
      exact zz_J.tv 54 rfl e rfl (zz_J.weak (c2 e hR) rfl ⟨rfl, rfl, trivial⟩)
theorem cb_33_40 {X : Nat → Option zz_C} {h : zz_H} {t : cS} {s : mS} {d : Nat} {Q : zz_O → zz_H → Prop} {x0 : Nat} {x1 : Int32} (hR : kR h t s) (e0 : x0 = 12 ∨ x0 = 21) (e1 : ¬ (x1 < 0 ∨ (kA t (x0 + 6)).1 ≤ (Int32.toNatClampNeg x1))) (k : ∀ {h : zz_H}, kR h t s → Q (.inl (some (.int ((kA t (x0 + 6)).2 (Int32.toNatClampNeg x1))))) h) : zz_J zp_P zt_tf zt_fd X d zm_33 40 [(0, .ref x0), (1, .int x1)] [] h Q := by
  refine zz_J.n 41 rfl rfl rfl ?_
  refine zz_J.g 44 rfl (hR.gv (v := .ref (kD t (x0 + 6))) (ko_P e0) (by decide) rfl) rfl ?_
  refine zz_J.n 45 rfl rfl rfl ?_
  refine zz_J.ai 46 rfl (hR.ai (w := ((kA t (x0 + 6)).2 (Int32.toNatClampNeg x1))) (ka_P6 e0) rfl e1 rfl) rfl ?_
  refine zz_J.ret rfl rfl rfl ?_
  exact k hR
theorem cb_33_47 {X : Nat → Option zz_C} {h : zz_H} {t : cS} {s : mS} {d : Nat} {Q : zz_O → zz_H → Prop} {x0 : Nat} {x1 : Int32} (hR : kR h t s) (e0 : x0 = 12 ∨ x0 = 21) (e1 : ¬ (x1 < 0 ∨ (kA t (x0 + 7)).1 ≤ (Int32.toNatClampNeg x1))) (k : ∀ {h : zz_H}, kR h t s → Q (.inl (some (.int ((kA t (x0 + 7)).2 (Int32.toNatClampNeg x1))))) h) : zz_J zp_P zt_tf zt_fd X d zm_33 47 [(0, .ref x0), (1, .int x1)] [] h Q := by
  refine zz_J.n 48 rfl rfl rfl ?_
  refine zz_J.g 51 rfl (hR.gv (v := .ref (kD t (x0 + 7))) (ko_P e0) (by decide) rfl) rfl ?_
  refine zz_J.n 52 rfl rfl rfl ?_
  refine zz_J.ai 53 rfl (hR.ai (w := ((kA t (x0 + 7)).2 (Int32.toNatClampNeg x1))) (ka_P7 e0) rfl e1 rfl) rfl ?_
  refine zz_J.ret rfl rfl rfl ?_
  exact k hR
theorem cb_33_54 {X : Nat → Option zz_C} {h : zz_H} {t : cS} {s : mS} {d : Nat} {Q : zz_O → zz_H → Prop} {x0 : Nat} {x1 : Int32} (hR : kR h t s) (e0 : x0 = 12 ∨ x0 = 21) (e1 : ¬ (x1 < 0 ∨ (kA t (x0 + 8)).1 ≤ (Int32.toNatClampNeg x1))) (k : ∀ {h : zz_H}, kR h t s → Q (.inl (some (.int ((kA t (x0 + 8)).2 (Int32.toNatClampNeg x1))))) h) : zz_J zp_P zt_tf zt_fd X d zm_33 54 [(0, .ref x0), (1, .int x1)] [] h Q := by
  refine zz_J.n 55 rfl rfl rfl ?_
  refine zz_J.g 58 rfl (hR.gv (v := .ref (kD t (x0 + 8))) (ko_P e0) (by decide) rfl) rfl ?_
  refine zz_J.n 59 rfl rfl rfl ?_
  refine zz_J.ai 60 rfl (hR.ai (w := ((kA t (x0 + 8)).2 (Int32.toNatClampNeg x1))) (ka_P8 e0) rfl e1 rfl) rfl ?_
  refine zz_J.ret rfl rfl rfl ?_
  exact k hR
theorem cb_33_61 {X : Nat → Option zz_C} {h : zz_H} {t : cS} {s : mS} {d : Nat} {Q : zz_O → zz_H → Prop}  (hR : kR h t s) (k : ∀ {h : zz_H}, kR h t s → Q (.inl (some (.int (-1)))) h) : zz_J zp_P zt_tf zt_fd X d zm_33 61 [] [] h Q := by
  refine zz_J.c 62 (.int (-1)) rfl rfl rfl rfl ?_
  refine zz_J.ret rfl rfl rfl ?_
  exact k hR
def cf_33_12 (N : Nat) (X : Nat → Option zz_C)  (t : cS) : kO := some (t, .inl (some (.int (-1))))
theorem cr_33_12 {X : Nat → Option zz_C} {s : mS} {N : Nat} {d : Nat} (hd : 0 ≤ d) {Q : zz_O → zz_H → Prop}  {h : zz_H} {t t' : cS} {o : kY} (hR : kR h t s) (hf : cf_33_12 N X  t = some (t', o)) (k : (∀ h', kR h' t' s → kE o Q h')) : zz_J zp_P zt_tf zt_fd X d zm_33 12 [] [] h Q := by
  unfold cf_33_12 at hf
  cases hf
  exact cb_33_12 hR  (fun {h} hR => k h hR)
def cf_33_40 (N : Nat) (X : Nat → Option zz_C) (x0 : Nat) (x1 : Int32) (t : cS) : kO := if x0 = 12 ∨ x0 = 21 then (if ¬ (x1 < 0 ∨ (kA t (x0 + 6)).1 ≤ (Int32.toNatClampNeg x1)) then (some (t, .inl (some (.int ((kA t (x0 + 6)).2 (Int32.toNatClampNeg x1)))))) else none) else none
theorem cr_33_40 {X : Nat → Option zz_C} {s : mS} {N : Nat} {d : Nat} (hd : 0 ≤ d) {Q : zz_O → zz_H → Prop} {x0 : Nat} {x1 : Int32} {h : zz_H} {t t' : cS} {o : kY} (hR : kR h t s) (hf : cf_33_40 N X x0 x1 t = some (t', o)) (k : (∀ h', kR h' t' s → kE o Q h')) : zz_J zp_P zt_tf zt_fd X d zm_33 40 [(0, .ref x0), (1, .int x1)] [] h Q := by
  unfold cf_33_40 at hf
  obtain ⟨e0, hf⟩ := ko_if hf
  obtain ⟨e1, hf⟩ := ko_if hf
  cases hf
  exact cb_33_40 hR e0 e1 (fun {h} hR => k h hR)
def cf_33_47 (N : Nat) (X : Nat → Option zz_C) (x0 : Nat) (x1 : Int32) (t : cS) : kO := if x0 = 12 ∨ x0 = 21 then (if ¬ (x1 < 0 ∨ (kA t (x0 + 7)).1 ≤ (Int32.toNatClampNeg x1)) then (some (t, .inl (some (.int ((kA t (x0 + 7)).2 (Int32.toNatClampNeg x1)))))) else none) else none
theorem cr_33_47 {X : Nat → Option zz_C} {s : mS} {N : Nat} {d : Nat} (hd : 0 ≤ d) {Q : zz_O → zz_H → Prop} {x0 : Nat} {x1 : Int32} {h : zz_H} {t t' : cS} {o : kY} (hR : kR h t s) (hf : cf_33_47 N X x0 x1 t = some (t', o)) (k : (∀ h', kR h' t' s → kE o Q h')) : zz_J zp_P zt_tf zt_fd X d zm_33 47 [(0, .ref x0), (1, .int x1)] [] h Q := by
  unfold cf_33_47 at hf
  obtain ⟨e0, hf⟩ := ko_if hf
  obtain ⟨e1, hf⟩ := ko_if hf
  cases hf
  exact cb_33_47 hR e0 e1 (fun {h} hR => k h hR)
def cf_33_54 (N : Nat) (X : Nat → Option zz_C) (x0 : Nat) (x1 : Int32) (t : cS) : kO := if x0 = 12 ∨ x0 = 21 then (if ¬ (x1 < 0 ∨ (kA t (x0 + 8)).1 ≤ (Int32.toNatClampNeg x1)) then (some (t, .inl (some (.int ((kA t (x0 + 8)).2 (Int32.toNatClampNeg x1)))))) else none) else none
theorem cr_33_54 {X : Nat → Option zz_C} {s : mS} {N : Nat} {d : Nat} (hd : 0 ≤ d) {Q : zz_O → zz_H → Prop} {x0 : Nat} {x1 : Int32} {h : zz_H} {t t' : cS} {o : kY} (hR : kR h t s) (hf : cf_33_54 N X x0 x1 t = some (t', o)) (k : (∀ h', kR h' t' s → kE o Q h')) : zz_J zp_P zt_tf zt_fd X d zm_33 54 [(0, .ref x0), (1, .int x1)] [] h Q := by
  unfold cf_33_54 at hf
  obtain ⟨e0, hf⟩ := ko_if hf
  obtain ⟨e1, hf⟩ := ko_if hf
  cases hf
  exact cb_33_54 hR e0 e1 (fun {h} hR => k h hR)
def cf_33_61 (N : Nat) (X : Nat → Option zz_C)  (t : cS) : kO := some (t, .inl (some (.int (-1))))
theorem cr_33_61 {X : Nat → Option zz_C} {s : mS} {N : Nat} {d : Nat} (hd : 0 ≤ d) {Q : zz_O → zz_H → Prop}  {h : zz_H} {t t' : cS} {o : kY} (hR : kR h t s) (hf : cf_33_61 N X  t = some (t', o)) (k : (∀ h', kR h' t' s → kE o Q h')) : zz_J zp_P zt_tf zt_fd X d zm_33 61 [] [] h Q := by
  unfold cf_33_61 at hf
  cases hf
  exact cb_33_61 hR  (fun {h} hR => k h hR)
def cf_33_14 (N : Nat) (X : Nat → Option zz_C) (x0 : Nat) (x1 : Int32) (x2 : Int32) (t : cS) : kO := if (Int32.toInt x2 < 0 ∨ 2 < Int32.toInt x2) then cf_33_61 N X  t else if x2 = 0 then cf_33_40 N X x0 x1 t else if x2 = 1 then cf_33_47 N X x0 x1 t else if x2 = 2 then cf_33_54 N X x0 x1 t else none
theorem cr_33_14 {X : Nat → Option zz_C} {s : mS} {N : Nat} {d : Nat} (hd : 0 ≤ d) {Q : zz_O → zz_H → Prop} {x0 : Nat} {x1 : Int32} {x2 : Int32} {h : zz_H} {t t' : cS} {o : kY} (hR : kR h t s) (hf : cf_33_14 N X x0 x1 x2 t = some (t', o)) (k : (∀ h', kR h' t' s → kE o Q h')) : zz_J zp_P zt_tf zt_fd X d zm_33 14 [(0, .ref x0), (1, .int x1), (2, .int x2)] [] h Q := by
  unfold cf_33_14 at hf
  refine cb_33_14 hR  (fun c {h} hR => ?_) (fun c {h} hR => ?_) (fun c {h} hR => ?_) (fun c {h} hR => ?_)
  · rw [if_neg (by rw [c]; decide)] at hf
    rw [if_pos c] at hf
    exact cr_33_40 hd hR hf k
  · rw [if_neg (by rw [c]; decide)] at hf
    rw [if_neg (by rw [c]; decide)] at hf
    rw [if_pos c] at hf
    exact cr_33_47 hd hR hf k
  · rw [if_neg (by rw [c]; decide)] at hf
    rw [if_neg (by rw [c]; decide)] at hf
    rw [if_neg (by rw [c]; decide)] at hf
    rw [if_pos c] at hf
    exact cr_33_54 hd hR hf k
  · rw [if_pos c] at hf
    exact cr_33_61 hd hR hf k
def cf_33_4 (N : Nat) (X : Nat → Option zz_C) (x0 : Nat) (x1 : Int32) (x2 : Int32) (t : cS) : kO := if x0 = 12 ∨ x0 = 21 then (if x1 < (kI t x0 4) then cf_33_14 N X x0 x1 x2 t else cf_33_12 N X  t) else none
theorem cr_33_4 {X : Nat → Option zz_C} {s : mS} {N : Nat} {d : Nat} (hd : 0 ≤ d) {Q : zz_O → zz_H → Prop} {x0 : Nat} {x1 : Int32} {x2 : Int32} {h : zz_H} {t t' : cS} {o : kY} (hR : kR h t s) (hf : cf_33_4 N X x0 x1 x2 t = some (t', o)) (k : (∀ h', kR h' t' s → kE o Q h')) : zz_J zp_P zt_tf zt_fd X d zm_33 4 [(0, .ref x0), (1, .int x1), (2, .int x2)] [] h Q := by
  unfold cf_33_4 at hf
  obtain ⟨e0, hf⟩ := ko_if hf
  refine cb_33_4 hR e0 (fun c {h} hR => ?_) (fun c {h} hR => ?_)
  · rw [if_pos c] at hf
    exact cr_33_14 hd hR hf k
  · rw [if_neg c] at hf
    exact cr_33_12 hd hR hf k
def cf_33_0 (N : Nat) (X : Nat → Option zz_C) (x0 : Nat) (x1 : Int32) (x2 : Int32) (t : cS) : kO := if x1 < 0 then cf_33_12 N X  t else cf_33_4 N X x0 x1 x2 t
theorem cr_33_0 {X : Nat → Option zz_C} {s : mS} {N : Nat} {d : Nat} (hd : 0 ≤ d) {Q : zz_O → zz_H → Prop} {x0 : Nat} {x1 : Int32} {x2 : Int32} {h : zz_H} {t t' : cS} {o : kY} (hR : kR h t s) (hf : cf_33_0 N X x0 x1 x2 t = some (t', o)) (k : (∀ h', kR h' t' s → kE o Q h')) : zz_J zp_P zt_tf zt_fd X d zm_33 0 [(0, .ref x0), (1, .int x1), (2, .int x2)] [] h Q := by
  unfold cf_33_0 at hf
  refine cb_33_0 hR  (fun c {h} hR => ?_) (fun c {h} hR => ?_)
  · rw [if_pos c] at hf
    exact cr_33_12 hd hR hf k
  · rw [if_neg c] at hf
    exact cr_33_4 hd hR hf k
/-- told -/
def cf_33 (N : Nat) (X : Nat → Option zz_C) (x0 : Nat) (x1 : Int32) (x2 : Int32) (t : cS) : kO := cf_33_0 N X x0 x1 x2 t
theorem cr_33 {X : Nat → Option zz_C} {s : mS} {N : Nat} {d : Nat} (hd : 0 ≤ d) {Q : zz_O → zz_H → Prop} {x0 : Nat} {x1 : Int32} {x2 : Int32} {h : zz_H} {t t' : cS} {o : kY} (hR : kR h t s) (hf : cf_33 N X x0 x1 x2 t = some (t', o)) (k : ∀ h', kR h' t' s → kE o Q h') : zz_J zp_P zt_tf zt_fd X d zm_33 0 [(0, .ref x0), (1, .int x1), (2, .int x2)] [] h Q := by
  unfold cf_33 at hf
  exact zz_J.weak (cr_33_0 hd hR hf k) rfl ⟨rfl, rfl, rfl, trivial⟩
/-! yX5_bindCalls ()V -/
theorem cb_38_0 {X : Nat → Option zz_C} {h : zz_H} {t : cS} {s : mS} {d : Nat} {Q : zz_O → zz_H → Prop}  (hR : kR h t s) (k : ∀ {h : zz_H}, kR h t s → zz_J zp_P zt_tf zt_fd X d zm_38 2 [(0, .ref 2), (1, .int 0)] [] h Q) : zz_J zp_P zt_tf zt_fd X d zm_38 0 [(0, .ref 2)] [] h Q := by
  refine zz_J.c 1 (.int 0) rfl rfl rfl rfl ?_
  refine zz_J.n 2 rfl rfl rfl ?_
  exact zz_J.weak (k hR) rfl ⟨rfl, rfl, trivial⟩
theorem cb_38_2 {X : Nat → Option zz_C} {h : zz_H} {t : cS} {s : mS} {d : Nat} {Q : zz_O → zz_H → Prop} {x1 : Int32} (hR : kR h t s) (k1 : (kI t 2 9) ≤ x1 → (∀ {h : zz_H}, kR h t s → zz_J zp_P zt_tf zt_fd X d zm_38 108 [] [] h Q)) (k2 : ¬ (kI t 2 9) ≤ x1 → (∀ {h : zz_H}, kR h t s → zz_J zp_P zt_tf zt_fd X d zm_38 10 [(0, .ref 2), (1, .int x1)] [] h Q)) : zz_J zp_P zt_tf zt_fd X d zm_38 2 [(0, .ref 2), (1, .int x1)] [] h Q := by
  refine zz_J.n 3 rfl rfl rfl ?_
  refine zz_J.n 4 rfl rfl rfl ?_
  refine zz_J.g 7 rfl (hR.gv (v := .int (kI t 2 9)) ko_2 (by decide) rfl) rfl ?_
  refine zz_J.b2 108 10 (A := (kI t 2 9) ≤ x1) rfl rfl (by decide) rfl rfl (fun c => ?_) (fun c => ?_)
  · exact zz_J.weak (k1 c hR) rfl trivial
  · exact zz_J.weak (k2 c hR) rfl ⟨rfl, rfl, trivial⟩
theorem cb_38_10 {X : Nat → Option zz_C} {h : zz_H} {t : cS} {s : mS} {d : Nat} {Q : zz_O → zz_H → Prop} {x1 : Int32} (hR : kR h t s) {w0 : Nat} (e0 : (kP t 2 1) = some w0) (e1 : ¬ (x1 < 0 ∨ (kB t 9).1 ≤ (Int32.toNatClampNeg x1))) (e2 : w0 = 12 ∨ w0 = 21) (k : ∀ {h : zz_H}, kR h t s → zz_J zp_P zt_tf zt_fd X d zm_205 0 [(0, .ref w0), (1, .long ((kB t 9).2 (Int32.toNatClampNeg x1)))] [] h (zz_after 6 Q (fun v h' => zz_J zp_P zt_tf zt_fd X (d + 1) zm_38 23 [(0, .ref 2), (1, .int x1)] (v.toList ++ []) h' Q))) : zz_J zp_P zt_tf zt_fd X (d + 1) zm_38 10 [(0, .ref 2), (1, .int x1)] [] h Q := by
  refine zz_J.n 11 rfl rfl rfl ?_
  refine zz_J.g 14 rfl (hR.gv (v := .ref w0) ko_2 (by decide) ((congrArg (fun q => some (zz_rv q)) e0).trans rfl)) rfl ?_
  refine zz_J.n 15 rfl rfl rfl ?_
  refine zz_J.g 18 rfl (hR.gv (v := .ref (kD t 9)) ko_2 (by decide) rfl) rfl ?_
  refine zz_J.n 19 rfl rfl rfl ?_
  refine zz_J.al 20 rfl (hR.al (w := ((kB t 9).2 (Int32.toNatClampNeg x1))) ka_9 rfl e1 rfl) rfl ?_
  refine zz_J.cv 23 (as := []) rfl rfl (hR.clO (ko_P e2) (by decide) (by decide)) (by decide) (Nat.le_of_ble_eq_true rfl) (Nat.le_of_ble_eq_true rfl) rfl (Nat.le_of_ble_eq_true rfl) rfl ?_
  refine zz_J.mono (k hR) ?_
  intro o h' hE
  cases o with
  | inl v => exact zz_J.weak hE rfl ⟨rfl, rfl, trivial⟩
  | inr q => exact hE
theorem cb_38_23 {X : Nat → Option zz_C} {h : zz_H} {t : cS} {s : mS} {d : Nat} {Q : zz_O → zz_H → Prop} {x1 : Int32} {y0 : Int32} (hR : kR h t s) {w0 : Nat} (e0 : (kP t 2 1) = some w0) (e1 : ¬ (x1 < 0 ∨ (kA t 8).1 ≤ (Int32.toNatClampNeg x1))) (e2 : w0 = 12 ∨ w0 = 21) (k : ∀ {h : zz_H}, kR h t s → zz_J zp_P zt_tf zt_fd X d zm_210 0 [(0, .ref w0), (1, .int ((kA t 8).2 (Int32.toNatClampNeg x1))), (2, .int y0)] [] h (zz_after 6 Q (fun v h' => zz_J zp_P zt_tf zt_fd X (d + 1) zm_38 38 [(0, .ref 2), (1, .int x1), (2, .int y0)] (v.toList ++ []) h' Q))) : zz_J zp_P zt_tf zt_fd X (d + 1) zm_38 23 [(0, .ref 2), (1, .int x1)] [.int y0] h Q := by
  refine zz_J.n 24 rfl rfl rfl ?_
  refine zz_J.n 25 rfl rfl rfl ?_
  refine zz_J.g 28 rfl (hR.gv (v := .ref w0) ko_2 (by decide) ((congrArg (fun q => some (zz_rv q)) e0).trans rfl)) rfl ?_
  refine zz_J.n 29 rfl rfl rfl ?_
  refine zz_J.g 32 rfl (hR.gv (v := .ref (kD t 8)) ko_2 (by decide) rfl) rfl ?_
  refine zz_J.n 33 rfl rfl rfl ?_
  refine zz_J.ai 34 rfl (hR.ai (w := ((kA t 8).2 (Int32.toNatClampNeg x1))) ka_8 rfl e1 rfl) rfl ?_
  refine zz_J.n 35 rfl rfl rfl ?_
  refine zz_J.cv 38 (as := []) rfl rfl (hR.clO (ko_P e2) (by decide) (by decide)) (by decide) (Nat.le_of_ble_eq_true rfl) (Nat.le_of_ble_eq_true rfl) rfl (Nat.le_of_ble_eq_true rfl) rfl ?_
  refine zz_J.mono (k hR) ?_
  intro o h' hE
  cases o with
  | inl v => exact zz_J.weak hE rfl ⟨rfl, rfl, rfl, trivial⟩
  | inr q => exact hE
theorem cb_38_38 {X : Nat → Option zz_C} {h : zz_H} {t : cS} {s : mS} {d : Nat} {Q : zz_O → zz_H → Prop} {x1 : Int32} {x2 : Int32} (hR : kR h t s) {w0 : Nat} (e0 : (kP t 2 1) = some w0) (e1 : w0 = 12 ∨ w0 = 21) (k : ∀ {h : zz_H}, kR h t s → zz_J zp_P zt_tf zt_fd X d zm_33 0 [(0, .ref w0), (1, .int x2), (2, .int 0)] [] h (zz_after 6 Q (fun v h' => zz_J zp_P zt_tf zt_fd X (d + 1) zm_38 47 [(0, .ref 2), (1, .int x1)] (v.toList ++ []) h' Q))) : zz_J zp_P zt_tf zt_fd X (d + 1) zm_38 38 [(0, .ref 2), (1, .int x1), (2, .int x2)] [] h Q := by
  refine zz_J.n 39 rfl rfl rfl ?_
  refine zz_J.g 42 rfl (hR.gv (v := .ref w0) ko_2 (by decide) ((congrArg (fun q => some (zz_rv q)) e0).trans rfl)) rfl ?_
  refine zz_J.n 43 rfl rfl rfl ?_
  refine zz_J.c 44 (.int 0) rfl rfl rfl rfl ?_
  refine zz_J.cv 47 (as := []) rfl rfl (hR.clO (ko_P e1) (by decide) (by decide)) (by decide) (Nat.le_of_ble_eq_true rfl) (Nat.le_of_ble_eq_true rfl) rfl (Nat.le_of_ble_eq_true rfl) rfl ?_
  refine zz_J.mono (k hR) ?_
  intro o h' hE
  cases o with
  | inl v => exact zz_J.weak hE rfl ⟨rfl, rfl, trivial⟩
  | inr q => exact hE
theorem cb_38_47 {X : Nat → Option zz_C} {h : zz_H} {t : cS} {s : mS} {d : Nat} {Q : zz_O → zz_H → Prop} {x1 : Int32} {y0 : Int32} (hR : kR h t s) (e0 : ¬ (x1 < 0 ∨ (kA t 11).1 ≤ (Int32.toNatClampNeg x1))) (k1 : ¬ y0 = ((kA t 11).2 (Int32.toNatClampNeg x1)) → (∀ {h : zz_H}, kR h t s → zz_J zp_P zt_tf zt_fd X d zm_38 60 [(0, .ref 2), (1, .int x1)] [] h Q)) (k2 : ¬ ¬ y0 = ((kA t 11).2 (Int32.toNatClampNeg x1)) → (∀ {h : zz_H}, kR h t s → zz_J zp_P zt_tf zt_fd X d zm_38 56 [(0, .ref 2), (1, .int x1)] [] h Q)) : zz_J zp_P zt_tf zt_fd X d zm_38 47 [(0, .ref 2), (1, .int x1)] [.int y0] h Q := by
  refine zz_J.n 48 rfl rfl rfl ?_
  refine zz_J.g 51 rfl (hR.gv (v := .ref (kD t 11)) ko_2 (by decide) rfl) rfl ?_
  refine zz_J.n 52 rfl rfl rfl ?_
  refine zz_J.ai 53 rfl (hR.ai (w := ((kA t 11).2 (Int32.toNatClampNeg x1))) ka_11 rfl e0 rfl) rfl ?_
  refine zz_J.b2 60 56 (A := ¬ y0 = ((kA t 11).2 (Int32.toNatClampNeg x1))) rfl (zz_cond_ne _ _) (by decide) rfl rfl (fun c => ?_) (fun c => ?_)
  · exact zz_J.weak (k1 c hR) rfl ⟨rfl, rfl, trivial⟩
  · exact zz_J.weak (k2 c hR) rfl ⟨rfl, rfl, trivial⟩
theorem cb_38_56 {X : Nat → Option zz_C} {h : zz_H} {t : cS} {s : mS} {d : Nat} {Q : zz_O → zz_H → Prop} {x1 : Int32} (hR : kR h t s) (k : ∀ {h : zz_H}, kR h t s → zz_J zp_P zt_tf zt_fd X d zm_38 61 [(0, .ref 2), (1, .int x1)] [.int 1] h Q) : zz_J zp_P zt_tf zt_fd X d zm_38 56 [(0, .ref 2), (1, .int x1)] [] h Q := by
  refine zz_J.c 57 (.int 1) rfl rfl rfl rfl ?_
  refine zz_J.n 61 rfl rfl rfl ?_
  exact zz_J.weak (k hR) rfl ⟨rfl, rfl, trivial⟩
theorem cb_38_60 {X : Nat → Option zz_C} {h : zz_H} {t : cS} {s : mS} {d : Nat} {Q : zz_O → zz_H → Prop} {x1 : Int32} (hR : kR h t s) (k : ∀ {h : zz_H}, kR h t s → zz_J zp_P zt_tf zt_fd X d zm_38 61 [(0, .ref 2), (1, .int x1)] [.int 0] h Q) : zz_J zp_P zt_tf zt_fd X d zm_38 60 [(0, .ref 2), (1, .int x1)] [] h Q := by
  refine zz_J.c 61 (.int 0) rfl rfl rfl rfl ?_
  exact zz_J.weak (k hR) rfl ⟨rfl, rfl, trivial⟩
theorem cb_38_61 {X : Nat → Option zz_C} {h : zz_H} {t : cS} {s : mS} {d : Nat} {Q : zz_O → zz_H → Prop} {x1 : Int32} {y0 : Int32} (hR : kR h t s) (k1 : ¬ y0 = 0 → (∀ {h : zz_H}, kR h t s → zz_J zp_P zt_tf zt_fd X d zm_38 102 [(0, .ref 2), (1, .int x1)] [] h Q)) (k2 : ¬ ¬ y0 = 0 → (∀ {h : zz_H}, kR h t s → zz_J zp_P zt_tf zt_fd X d zm_38 66 [(0, .ref 2), (1, .int x1)] [] h Q)) : zz_J zp_P zt_tf zt_fd X d zm_38 61 [(0, .ref 2), (1, .int x1)] [.int y0] h Q := by
  refine zz_J.n 62 rfl rfl rfl ?_
  refine zz_J.n 63 rfl rfl rfl ?_
  refine zz_J.b1 102 66 (A := ¬ y0 = 0) rfl (zz_cond_ne _ _) (by decide) rfl rfl (fun c => ?_) (fun c => ?_)
  · exact zz_J.weak (k1 c hR) rfl ⟨rfl, rfl, trivial⟩
  · exact zz_J.weak (k2 c hR) rfl ⟨rfl, rfl, trivial⟩
theorem cb_38_66 {X : Nat → Option zz_C} {h : zz_H} {t : cS} {s : mS} {d : Nat} {Q : zz_O → zz_H → Prop} {x1 : Int32} (hR : kR h t s) (k1 : (kI t 2 10) = 0 → (∀ {h : zz_H}, kR h t s → zz_J zp_P zt_tf zt_fd X d zm_38 86 [(0, .ref 2), (1, .int x1)] [] h Q)) (k2 : ¬ (kI t 2 10) = 0 → (∀ {h : zz_H}, kR h t s → zz_J zp_P zt_tf zt_fd X d zm_38 73 [(0, .ref 2), (1, .int x1)] [] h Q)) : zz_J zp_P zt_tf zt_fd X d zm_38 66 [(0, .ref 2), (1, .int x1)] [] h Q := by
  refine zz_J.n 67 rfl rfl rfl ?_
  refine zz_J.g 70 rfl (hR.gv (v := .int (kI t 2 10)) ko_2 (by decide) rfl) rfl ?_
  refine zz_J.b1 86 73 (A := (kI t 2 10) = 0) rfl rfl (by decide) rfl rfl (fun c => ?_) (fun c => ?_)
  · exact zz_J.weak (k1 c hR) rfl ⟨rfl, rfl, trivial⟩
  · exact zz_J.weak (k2 c hR) rfl ⟨rfl, rfl, trivial⟩
theorem cb_38_73 {X : Nat → Option zz_C} {h : zz_H} {t : cS} {s : mS} {d : Nat} {Q : zz_O → zz_H → Prop} {x1 : Int32} (hR : kR h t s) (e0 : ¬ (x1 < 0 ∨ (kA t 10).1 ≤ (Int32.toNatClampNeg x1))) (k1 : (kI t 2 11) ≤ ((kA t 10).2 (Int32.toNatClampNeg x1)) → (∀ {h : zz_H}, kR h t s → zz_J zp_P zt_tf zt_fd X d zm_38 102 [(0, .ref 2), (1, .int x1)] [] h Q)) (k2 : ¬ (kI t 2 11) ≤ ((kA t 10).2 (Int32.toNatClampNeg x1)) → (∀ {h : zz_H}, kR h t s → zz_J zp_P zt_tf zt_fd X d zm_38 86 [(0, .ref 2), (1, .int x1)] [] h Q)) : zz_J zp_P zt_tf zt_fd X d zm_38 73 [(0, .ref 2), (1, .int x1)] [] h Q := by
  refine zz_J.n 74 rfl rfl rfl ?_
  refine zz_J.g 77 rfl (hR.gv (v := .ref (kD t 10)) ko_2 (by decide) rfl) rfl ?_
  refine zz_J.n 78 rfl rfl rfl ?_
  refine zz_J.ai 79 rfl (hR.ai (w := ((kA t 10).2 (Int32.toNatClampNeg x1))) ka_10 rfl e0 rfl) rfl ?_
  refine zz_J.n 80 rfl rfl rfl ?_
  refine zz_J.g 83 rfl (hR.gv (v := .int (kI t 2 11)) ko_2 (by decide) rfl) rfl ?_
  refine zz_J.b2 102 86 (A := (kI t 2 11) ≤ ((kA t 10).2 (Int32.toNatClampNeg x1))) rfl rfl (by decide) rfl rfl (fun c => ?_) (fun c => ?_)
  · exact zz_J.weak (k1 c hR) rfl ⟨rfl, rfl, trivial⟩
  · exact zz_J.weak (k2 c hR) rfl ⟨rfl, rfl, trivial⟩
theorem cb_38_86 {X : Nat → Option zz_C} {h : zz_H} {t : cS} {s : mS} {d : Nat} {Q : zz_O → zz_H → Prop} {x1 : Int32} (hR : kR h t s) (e0 : ¬ (x1 < 0 ∨ (kA t 10).1 ≤ (Int32.toNatClampNeg x1))) (k : ∀ {h : zz_H}, kR h (jI (jI t 2 10 6) 2 11 ((kA t 10).2 (Int32.toNatClampNeg x1))) s → zz_J zp_P zt_tf zt_fd X d zm_38 102 [(0, .ref 2), (1, .int x1)] [] h Q) : zz_J zp_P zt_tf zt_fd X d zm_38 86 [(0, .ref 2), (1, .int x1)] [] h Q := by
  refine zz_J.n 87 rfl rfl rfl ?_
  refine zz_J.c 89 (.int 6) rfl rfl rfl rfl ?_
  obtain ⟨h1, eq1, hR⟩ := hR.pI (x := (6 : Int32)) (by decide) ko_2 (kpi_2_10 _) (Nat.le_of_ble_eq_true rfl) rfl
  refine zz_J.pv 92 rfl eq1 rfl ?_
  clear eq1
  refine zz_J.n 93 rfl rfl rfl ?_
  refine zz_J.n 94 rfl rfl rfl ?_
  refine zz_J.g 97 rfl (hR.gv (v := .ref (kD t 10)) ko_2 (by decide) rfl) rfl ?_
  refine zz_J.n 98 rfl rfl rfl ?_
  refine zz_J.ai 99 rfl (hR.ai (w := ((kA t 10).2 (Int32.toNatClampNeg x1))) ka_10 rfl e0 rfl) rfl ?_
  obtain ⟨h1, eq1, hR⟩ := hR.pI (x := ((kA t 10).2 (Int32.toNatClampNeg x1))) (by decide) ko_2 (kpi_2_11 _) (Nat.le_of_ble_eq_true rfl) rfl
  refine zz_J.pv 102 rfl eq1 rfl ?_
  clear eq1
  exact zz_J.weak (k hR) rfl ⟨rfl, rfl, trivial⟩
theorem cb_38_102 {X : Nat → Option zz_C} {h : zz_H} {t : cS} {s : mS} {d : Nat} {Q : zz_O → zz_H → Prop} {x1 : Int32} (hR : kR h t s) (k : ∀ {h : zz_H}, kR h t s → zz_J zp_P zt_tf zt_fd X d zm_38 2 [(0, .ref 2), (1, .int (x1 + 1))] [] h Q) : zz_J zp_P zt_tf zt_fd X d zm_38 102 [(0, .ref 2), (1, .int x1)] [] h Q := by
  refine zz_J.n 105 rfl rfl rfl ?_
  refine zz_J.n 2 rfl rfl rfl ?_
  exact zz_J.weak (k hR) rfl ⟨rfl, rfl, trivial⟩
theorem cb_38_108 {X : Nat → Option zz_C} {h : zz_H} {t : cS} {s : mS} {d : Nat} {Q : zz_O → zz_H → Prop}  (hR : kR h t s) (k : ∀ {h : zz_H}, kR h t s → Q (.inl none) h) : zz_J zp_P zt_tf zt_fd X d zm_38 108 [] [] h Q := by
  refine zz_J.ret rfl rfl rfl ?_
  exact k hR
def cf_38_108 (N : Nat) (X : Nat → Option zz_C)  (t : cS) : kO := some (t, .inl none)
theorem cr_38_108 {X : Nat → Option zz_C} {s : mS} {N : Nat} {d : Nat} (hd : 1 ≤ d) {Q : zz_O → zz_H → Prop}  {h : zz_H} {t t' : cS} {o : kY} (hR : kR h t s) (hf : cf_38_108 N X  t = some (t', o)) (k : (∀ h', kR h' t' s → kE o Q h')) : zz_J zp_P zt_tf zt_fd X d zm_38 108 [] [] h Q := by
  unfold cf_38_108 at hf
  cases hf
  exact cb_38_108 hR  (fun {h} hR => k h hR)
def cf_38_102 (N : Nat) (X : Nat → Option zz_C) (rc : Nat → Int32 → cS → kO) (x1 : Int32) (t : cS) : kO := rc 0 (x1 + 1) t
theorem cr_38_102 {X : Nat → Option zz_C} {s : mS} {N : Nat} {d : Nat} (hd : 1 ≤ d) {rc : Nat → Int32 → cS → kO} (hrc0 : ∀ {Q : zz_O → zz_H → Prop} {x1 : Int32} {h : zz_H} {t t' : cS} {o : kY}, kR h t s → rc 0 x1 t = some (t', o) → (∀ h', kR h' t' s → kE o Q h') → zz_J zp_P zt_tf zt_fd X d zm_38 2 [(0, .ref 2), (1, .int x1)] [] h Q) {Q : zz_O → zz_H → Prop} {x1 : Int32} {h : zz_H} {t t' : cS} {o : kY} (hR : kR h t s) (hf : cf_38_102 N X rc x1 t = some (t', o)) (k : (∀ h', kR h' t' s → kE o Q h')) : zz_J zp_P zt_tf zt_fd X d zm_38 102 [(0, .ref 2), (1, .int x1)] [] h Q := by
  unfold cf_38_102 at hf
  exact cb_38_102 hR  (fun hR => hrc0 hR hf k)
def cf_38_86 (N : Nat) (X : Nat → Option zz_C) (rc : Nat → Int32 → cS → kO) (x1 : Int32) (t : cS) : kO := if ¬ (x1 < 0 ∨ (kA t 10).1 ≤ (Int32.toNatClampNeg x1)) then (cf_38_102 N X rc x1 (jI (jI t 2 10 6) 2 11 ((kA t 10).2 (Int32.toNatClampNeg x1)))) else none
theorem cr_38_86 {X : Nat → Option zz_C} {s : mS} {N : Nat} {d : Nat} (hd : 1 ≤ d) {rc : Nat → Int32 → cS → kO} (hrc0 : ∀ {Q : zz_O → zz_H → Prop} {x1 : Int32} {h : zz_H} {t t' : cS} {o : kY}, kR h t s → rc 0 x1 t = some (t', o) → (∀ h', kR h' t' s → kE o Q h') → zz_J zp_P zt_tf zt_fd X d zm_38 2 [(0, .ref 2), (1, .int x1)] [] h Q) {Q : zz_O → zz_H → Prop} {x1 : Int32} {h : zz_H} {t t' : cS} {o : kY} (hR : kR h t s) (hf : cf_38_86 N X rc x1 t = some (t', o)) (k : (∀ h', kR h' t' s → kE o Q h')) : zz_J zp_P zt_tf zt_fd X d zm_38 86 [(0, .ref 2), (1, .int x1)] [] h Q := by
  unfold cf_38_86 at hf
  obtain ⟨e0, hf⟩ := ko_if hf
  exact cb_38_86 hR e0 (fun hR => cr_38_102 hd hrc0 hR hf k)
def cf_38_73 (N : Nat) (X : Nat → Option zz_C) (rc : Nat → Int32 → cS → kO) (x1 : Int32) (t : cS) : kO := if ¬ (x1 < 0 ∨ (kA t 10).1 ≤ (Int32.toNatClampNeg x1)) then (if (kI t 2 11) ≤ ((kA t 10).2 (Int32.toNatClampNeg x1)) then cf_38_102 N X rc x1 t else cf_38_86 N X rc x1 t) else none
theorem cr_38_73 {X : Nat → Option zz_C} {s : mS} {N : Nat} {d : Nat} (hd : 1 ≤ d) {rc : Nat → Int32 → cS → kO} (hrc0 : ∀ {Q : zz_O → zz_H → Prop} {x1 : Int32} {h : zz_H} {t t' : cS} {o : kY}, kR h t s → rc 0 x1 t = some (t', o) → (∀ h', kR h' t' s → kE o Q h') → zz_J zp_P zt_tf zt_fd X d zm_38 2 [(0, .ref 2), (1, .int x1)] [] h Q) {Q : zz_O → zz_H → Prop} {x1 : Int32} {h : zz_H} {t t' : cS} {o : kY} (hR : kR h t s) (hf : cf_38_73 N X rc x1 t = some (t', o)) (k : (∀ h', kR h' t' s → kE o Q h')) : zz_J zp_P zt_tf zt_fd X d zm_38 73 [(0, .ref 2), (1, .int x1)] [] h Q := by
  unfold cf_38_73 at hf
  obtain ⟨e0, hf⟩ := ko_if hf
  refine cb_38_73 hR e0 (fun c {h} hR => ?_) (fun c {h} hR => ?_)
  · rw [if_pos c] at hf
    exact cr_38_102 hd hrc0 hR hf k
  · rw [if_neg c] at hf
    exact cr_38_86 hd hrc0 hR hf k
def cf_38_66 (N : Nat) (X : Nat → Option zz_C) (rc : Nat → Int32 → cS → kO) (x1 : Int32) (t : cS) : kO := if (kI t 2 10) = 0 then cf_38_86 N X rc x1 t else cf_38_73 N X rc x1 t
theorem cr_38_66 {X : Nat → Option zz_C} {s : mS} {N : Nat} {d : Nat} (hd : 1 ≤ d) {rc : Nat → Int32 → cS → kO} (hrc0 : ∀ {Q : zz_O → zz_H → Prop} {x1 : Int32} {h : zz_H} {t t' : cS} {o : kY}, kR h t s → rc 0 x1 t = some (t', o) → (∀ h', kR h' t' s → kE o Q h') → zz_J zp_P zt_tf zt_fd X d zm_38 2 [(0, .ref 2), (1, .int x1)] [] h Q) {Q : zz_O → zz_H → Prop} {x1 : Int32} {h : zz_H} {t t' : cS} {o : kY} (hR : kR h t s) (hf : cf_38_66 N X rc x1 t = some (t', o)) (k : (∀ h', kR h' t' s → kE o Q h')) : zz_J zp_P zt_tf zt_fd X d zm_38 66 [(0, .ref 2), (1, .int x1)] [] h Q := by
  unfold cf_38_66 at hf
  refine cb_38_66 hR  (fun c {h} hR => ?_) (fun c {h} hR => ?_)
  · rw [if_pos c] at hf
    exact cr_38_86 hd hrc0 hR hf k
  · rw [if_neg c] at hf
    exact cr_38_73 hd hrc0 hR hf k
def cf_38_61 (N : Nat) (X : Nat → Option zz_C) (rc : Nat → Int32 → cS → kO) (x1 : Int32) (y0 : Int32) (t : cS) : kO := if ¬ y0 = 0 then cf_38_102 N X rc x1 t else cf_38_66 N X rc x1 t
theorem cr_38_61 {X : Nat → Option zz_C} {s : mS} {N : Nat} {d : Nat} (hd : 1 ≤ d) {rc : Nat → Int32 → cS → kO} (hrc0 : ∀ {Q : zz_O → zz_H → Prop} {x1 : Int32} {h : zz_H} {t t' : cS} {o : kY}, kR h t s → rc 0 x1 t = some (t', o) → (∀ h', kR h' t' s → kE o Q h') → zz_J zp_P zt_tf zt_fd X d zm_38 2 [(0, .ref 2), (1, .int x1)] [] h Q) {Q : zz_O → zz_H → Prop} {x1 : Int32} {y0 : Int32} {h : zz_H} {t t' : cS} {o : kY} (hR : kR h t s) (hf : cf_38_61 N X rc x1 y0 t = some (t', o)) (k : (∀ h', kR h' t' s → kE o Q h')) : zz_J zp_P zt_tf zt_fd X d zm_38 61 [(0, .ref 2), (1, .int x1)] [.int y0] h Q := by
  unfold cf_38_61 at hf
  refine cb_38_61 hR  (fun c {h} hR => ?_) (fun c {h} hR => ?_)
  · rw [if_pos c] at hf
    exact cr_38_102 hd hrc0 hR hf k
  · rw [if_neg c] at hf
    exact cr_38_66 hd hrc0 hR hf k
def cf_38_56 (N : Nat) (X : Nat → Option zz_C) (rc : Nat → Int32 → cS → kO) (x1 : Int32) (t : cS) : kO := cf_38_61 N X rc x1 1 t
theorem cr_38_56 {X : Nat → Option zz_C} {s : mS} {N : Nat} {d : Nat} (hd : 1 ≤ d) {rc : Nat → Int32 → cS → kO} (hrc0 : ∀ {Q : zz_O → zz_H → Prop} {x1 : Int32} {h : zz_H} {t t' : cS} {o : kY}, kR h t s → rc 0 x1 t = some (t', o) → (∀ h', kR h' t' s → kE o Q h') → zz_J zp_P zt_tf zt_fd X d zm_38 2 [(0, .ref 2), (1, .int x1)] [] h Q) {Q : zz_O → zz_H → Prop} {x1 : Int32} {h : zz_H} {t t' : cS} {o : kY} (hR : kR h t s) (hf : cf_38_56 N X rc x1 t = some (t', o)) (k : (∀ h', kR h' t' s → kE o Q h')) : zz_J zp_P zt_tf zt_fd X d zm_38 56 [(0, .ref 2), (1, .int x1)] [] h Q := by
  unfold cf_38_56 at hf
  exact cb_38_56 hR  (fun hR => cr_38_61 hd hrc0 hR hf k)
def cf_38_60 (N : Nat) (X : Nat → Option zz_C) (rc : Nat → Int32 → cS → kO) (x1 : Int32) (t : cS) : kO := cf_38_61 N X rc x1 0 t
theorem cr_38_60 {X : Nat → Option zz_C} {s : mS} {N : Nat} {d : Nat} (hd : 1 ≤ d) {rc : Nat → Int32 → cS → kO} (hrc0 : ∀ {Q : zz_O → zz_H → Prop} {x1 : Int32} {h : zz_H} {t t' : cS} {o : kY}, kR h t s → rc 0 x1 t = some (t', o) → (∀ h', kR h' t' s → kE o Q h') → zz_J zp_P zt_tf zt_fd X d zm_38 2 [(0, .ref 2), (1, .int x1)] [] h Q) {Q : zz_O → zz_H → Prop} {x1 : Int32} {h : zz_H} {t t' : cS} {o : kY} (hR : kR h t s) (hf : cf_38_60 N X rc x1 t = some (t', o)) (k : (∀ h', kR h' t' s → kE o Q h')) : zz_J zp_P zt_tf zt_fd X d zm_38 60 [(0, .ref 2), (1, .int x1)] [] h Q := by
  unfold cf_38_60 at hf
  exact cb_38_60 hR  (fun hR => cr_38_61 hd hrc0 hR hf k)
def cf_38_47 (N : Nat) (X : Nat → Option zz_C) (rc : Nat → Int32 → cS → kO) (x1 : Int32) (y0 : Int32) (t : cS) : kO := if ¬ (x1 < 0 ∨ (kA t 11).1 ≤ (Int32.toNatClampNeg x1)) then (if ¬ y0 = ((kA t 11).2 (Int32.toNatClampNeg x1)) then cf_38_60 N X rc x1 t else cf_38_56 N X rc x1 t) else none
theorem cr_38_47 {X : Nat → Option zz_C} {s : mS} {N : Nat} {d : Nat} (hd : 1 ≤ d) {rc : Nat → Int32 → cS → kO} (hrc0 : ∀ {Q : zz_O → zz_H → Prop} {x1 : Int32} {h : zz_H} {t t' : cS} {o : kY}, kR h t s → rc 0 x1 t = some (t', o) → (∀ h', kR h' t' s → kE o Q h') → zz_J zp_P zt_tf zt_fd X d zm_38 2 [(0, .ref 2), (1, .int x1)] [] h Q) {Q : zz_O → zz_H → Prop} {x1 : Int32} {y0 : Int32} {h : zz_H} {t t' : cS} {o : kY} (hR : kR h t s) (hf : cf_38_47 N X rc x1 y0 t = some (t', o)) (k : (∀ h', kR h' t' s → kE o Q h')) : zz_J zp_P zt_tf zt_fd X d zm_38 47 [(0, .ref 2), (1, .int x1)] [.int y0] h Q := by
  unfold cf_38_47 at hf
  obtain ⟨e0, hf⟩ := ko_if hf
  refine cb_38_47 hR e0 (fun c {h} hR => ?_) (fun c {h} hR => ?_)
  · rw [if_pos c] at hf
    exact cr_38_60 hd hrc0 hR hf k
  · rw [if_neg c] at hf
    exact cr_38_56 hd hrc0 hR hf k
def cf_38_38 (N : Nat) (X : Nat → Option zz_C) (rc : Nat → Int32 → cS → kO) (x1 : Int32) (x2 : Int32) (t : cS) : kO := co_b ((kP t 2 1)) (fun w0 => if w0 = 12 ∨ w0 = 21 then (ko_call 6 (cf_33 N X w0 x2 0 t) (fun g1 v1 => co_i v1 (fun y => cf_38_47 N X rc x1 y g1))) else none)
theorem cr_38_38 {X : Nat → Option zz_C} {s : mS} {N : Nat} {d : Nat} (hd : 1 ≤ d) {rc : Nat → Int32 → cS → kO} (hrc0 : ∀ {Q : zz_O → zz_H → Prop} {x1 : Int32} {h : zz_H} {t t' : cS} {o : kY}, kR h t s → rc 0 x1 t = some (t', o) → (∀ h', kR h' t' s → kE o Q h') → zz_J zp_P zt_tf zt_fd X d zm_38 2 [(0, .ref 2), (1, .int x1)] [] h Q) {Q : zz_O → zz_H → Prop} {x1 : Int32} {x2 : Int32} {h : zz_H} {t t' : cS} {o : kY} (hR : kR h t s) (hf : cf_38_38 N X rc x1 x2 t = some (t', o)) (k : (∀ h', kR h' t' s → kE o Q h')) : zz_J zp_P zt_tf zt_fd X d zm_38 38 [(0, .ref 2), (1, .int x1), (2, .int x2)] [] h Q := by
  unfold cf_38_38 at hf
  obtain ⟨w0, e0, hf⟩ := co_b_ok hf
  obtain ⟨e1, hf⟩ := ko_if hf
  obtain ⟨d', rfl⟩ : ∃ d', d = d' + 1 := ⟨d - 1, by omega⟩
  refine cb_38_38 hR e0 e1 (fun {h} hR => ?_)
  rcases ko_call_ok hf with ⟨g1, v1, er, hf⟩ | ⟨g1, er, hq⟩
  · obtain ⟨y, hv, hf2⟩ := co_i_ok hf
    clear hf
    have hf := hf2
    clear hf2
    subst hv
    refine cr_33 (by omega) hR er (fun h hR => ?_)
    exact cr_38_47 hd hrc0 hR hf k
  · refine cr_33 (by omega) hR er (fun h hR => ?_)
    exact ko_thrown hq hR k
def cf_38_23 (N : Nat) (X : Nat → Option zz_C) (rc : Nat → Int32 → cS → kO) (x1 : Int32) (y0 : Int32) (t : cS) : kO := co_b ((kP t 2 1)) (fun w0 => if ¬ (x1 < 0 ∨ (kA t 8).1 ≤ (Int32.toNatClampNeg x1)) then (if w0 = 12 ∨ w0 = 21 then (ko_call 6 (cf_210 N X w0 ((kA t 8).2 (Int32.toNatClampNeg x1)) y0 t) (fun g1 v1 => co_v v1 (cf_38_38 N X rc x1 y0 g1))) else none) else none)
theorem cr_38_23 {X : Nat → Option zz_C} {s : mS} {N : Nat} {d : Nat} (hd : 1 ≤ d) {rc : Nat → Int32 → cS → kO} (hrc0 : ∀ {Q : zz_O → zz_H → Prop} {x1 : Int32} {h : zz_H} {t t' : cS} {o : kY}, kR h t s → rc 0 x1 t = some (t', o) → (∀ h', kR h' t' s → kE o Q h') → zz_J zp_P zt_tf zt_fd X d zm_38 2 [(0, .ref 2), (1, .int x1)] [] h Q) {Q : zz_O → zz_H → Prop} {x1 : Int32} {y0 : Int32} {h : zz_H} {t t' : cS} {o : kY} (hR : kR h t s) (hf : cf_38_23 N X rc x1 y0 t = some (t', o)) (k : (∀ h', kR h' t' s → kE o Q h')) : zz_J zp_P zt_tf zt_fd X d zm_38 23 [(0, .ref 2), (1, .int x1)] [.int y0] h Q := by
  unfold cf_38_23 at hf
  obtain ⟨w0, e0, hf⟩ := co_b_ok hf
  obtain ⟨e1, hf⟩ := ko_if hf
  obtain ⟨e2, hf⟩ := ko_if hf
  obtain ⟨d', rfl⟩ : ∃ d', d = d' + 1 := ⟨d - 1, by omega⟩
  refine cb_38_23 hR e0 e1 e2 (fun {h} hR => ?_)
  rcases ko_call_ok hf with ⟨g1, v1, er, hf⟩ | ⟨g1, er, hq⟩
  · obtain ⟨hv, hf2⟩ := co_v_ok hf
    clear hf
    have hf := hf2
    clear hf2
    subst hv
    refine cr_210 (by omega) hR er (fun h hR => ?_)
    exact cr_38_38 hd hrc0 hR hf k
  · refine cr_210 (by omega) hR er (fun h hR => ?_)
    exact ko_thrown hq hR k
def cf_38_10 (N : Nat) (X : Nat → Option zz_C) (rc : Nat → Int32 → cS → kO) (x1 : Int32) (t : cS) : kO := co_b ((kP t 2 1)) (fun w0 => if ¬ (x1 < 0 ∨ (kB t 9).1 ≤ (Int32.toNatClampNeg x1)) then (if w0 = 12 ∨ w0 = 21 then (ko_call 6 (cf_205 N X w0 ((kB t 9).2 (Int32.toNatClampNeg x1)) t) (fun g1 v1 => co_i v1 (fun y => cf_38_23 N X rc x1 y g1))) else none) else none)
theorem cr_38_10 {X : Nat → Option zz_C} {s : mS} {N : Nat} {d : Nat} (hd : 1 ≤ d) {rc : Nat → Int32 → cS → kO} (hrc0 : ∀ {Q : zz_O → zz_H → Prop} {x1 : Int32} {h : zz_H} {t t' : cS} {o : kY}, kR h t s → rc 0 x1 t = some (t', o) → (∀ h', kR h' t' s → kE o Q h') → zz_J zp_P zt_tf zt_fd X d zm_38 2 [(0, .ref 2), (1, .int x1)] [] h Q) {Q : zz_O → zz_H → Prop} {x1 : Int32} {h : zz_H} {t t' : cS} {o : kY} (hR : kR h t s) (hf : cf_38_10 N X rc x1 t = some (t', o)) (k : (∀ h', kR h' t' s → kE o Q h')) : zz_J zp_P zt_tf zt_fd X d zm_38 10 [(0, .ref 2), (1, .int x1)] [] h Q := by
  unfold cf_38_10 at hf
  obtain ⟨w0, e0, hf⟩ := co_b_ok hf
  obtain ⟨e1, hf⟩ := ko_if hf
  obtain ⟨e2, hf⟩ := ko_if hf
  obtain ⟨d', rfl⟩ : ∃ d', d = d' + 1 := ⟨d - 1, by omega⟩
  refine cb_38_10 hR e0 e1 e2 (fun {h} hR => ?_)
  rcases ko_call_ok hf with ⟨g1, v1, er, hf⟩ | ⟨g1, er, hq⟩
  · obtain ⟨y, hv, hf2⟩ := co_i_ok hf
    clear hf
    have hf := hf2
    clear hf2
    subst hv
    refine cr_205 (by omega) hR er (fun h hR => ?_)
    exact cr_38_23 hd hrc0 hR hf k
  · refine cr_205 (by omega) hR er (fun h hR => ?_)
    exact ko_thrown hq hR k
def cf_38_2 (N : Nat) (X : Nat → Option zz_C) (rc : Nat → Int32 → cS → kO) (x1 : Int32) (t : cS) : kO := if (kI t 2 9) ≤ x1 then cf_38_108 N X  t else cf_38_10 N X rc x1 t
theorem cr_38_2 {X : Nat → Option zz_C} {s : mS} {N : Nat} {d : Nat} (hd : 1 ≤ d) {rc : Nat → Int32 → cS → kO} (hrc0 : ∀ {Q : zz_O → zz_H → Prop} {x1 : Int32} {h : zz_H} {t t' : cS} {o : kY}, kR h t s → rc 0 x1 t = some (t', o) → (∀ h', kR h' t' s → kE o Q h') → zz_J zp_P zt_tf zt_fd X d zm_38 2 [(0, .ref 2), (1, .int x1)] [] h Q) {Q : zz_O → zz_H → Prop} {x1 : Int32} {h : zz_H} {t t' : cS} {o : kY} (hR : kR h t s) (hf : cf_38_2 N X rc x1 t = some (t', o)) (k : (∀ h', kR h' t' s → kE o Q h')) : zz_J zp_P zt_tf zt_fd X d zm_38 2 [(0, .ref 2), (1, .int x1)] [] h Q := by
  unfold cf_38_2 at hf
  refine cb_38_2 hR  (fun c {h} hR => ?_) (fun c {h} hR => ?_)
  · rw [if_pos c] at hf
    exact cr_38_108 hd hR hf k
  · rw [if_neg c] at hf
    exact cr_38_10 hd hrc0 hR hf k
def cf_38_L1 (N : Nat) (X : Nat → Option zz_C) : Nat → Nat → Int32 → cS → kO
  | 0, _, _, _ => none
  | n + 1, l, x1, t => if l = 0 then cf_38_2 N X (cf_38_L1 N X n) x1 t else none
theorem cr_38_L1 {X : Nat → Option zz_C} {s : mS} {N : Nat} {d : Nat} (hd : 1 ≤ d) : ∀ n : Nat, (∀ {Q : zz_O → zz_H → Prop} {x1 : Int32} {h : zz_H} {t t' : cS} {o : kY}, kR h t s → cf_38_L1 N X n 0 x1 t = some (t', o) → (∀ h', kR h' t' s → kE o Q h') → zz_J zp_P zt_tf zt_fd X d zm_38 2 [(0, .ref 2), (1, .int x1)] [] h Q) := by
  intro n
  induction n with
  | zero => exact (fun _ hf _ => by cases hf)
  | succ n ih =>
    have h0 := @ih
    intro Q _ h t t' o hR hf k
    unfold cf_38_L1 at hf
    rw [if_pos rfl] at hf
    exact cr_38_2 hd h0 hR hf k
def cf_38_0 (N : Nat) (X : Nat → Option zz_C)  (t : cS) : kO := cf_38_L1 N X N 0 0 t
theorem cr_38_0 {X : Nat → Option zz_C} {s : mS} {N : Nat} {d : Nat} (hd : 1 ≤ d) {Q : zz_O → zz_H → Prop}  {h : zz_H} {t t' : cS} {o : kY} (hR : kR h t s) (hf : cf_38_0 N X  t = some (t', o)) (k : (∀ h', kR h' t' s → kE o Q h')) : zz_J zp_P zt_tf zt_fd X d zm_38 0 [(0, .ref 2)] [] h Q := by
  unfold cf_38_0 at hf
  exact cb_38_0 hR  (fun hR => cr_38_L1 hd N hR hf k)
/-- bindCalls -/
def cf_38 (N : Nat) (X : Nat → Option zz_C)  (t : cS) : kO := cf_38_0 N X  t
theorem cr_38 {X : Nat → Option zz_C} {s : mS} {N : Nat} {d : Nat} (hd : 1 ≤ d) {Q : zz_O → zz_H → Prop}  {h : zz_H} {t t' : cS} {o : kY} (hR : kR h t s) (hf : cf_38 N X  t = some (t', o)) (k : ∀ h', kR h' t' s → kE o Q h') : zz_J zp_P zt_tf zt_fd X d zm_38 0 [(0, .ref 2)] [] h Q := by
  unfold cf_38 at hf
  exact zz_J.weak (cr_38_0 hd hR hf k) rfl ⟨rfl, trivial⟩
/-! yX10_skipBlanks ([BII)I -/
theorem cb_43_0 {X : Nat → Option zz_C} {h : zz_H} {t : cS} {s : mS} {d : Nat} {Q : zz_O → zz_H → Prop} {x0 : Nat} {x1 : Int32} {x2 : Int32} (hR : kR h t s) (k : ∀ {h : zz_H}, kR h t s → zz_J zp_P zt_tf zt_fd X d zm_43 5 [(0, .ref x0), (1, .int x1), (3, .int 0), (4, .int x2)] [] h Q) : zz_J zp_P zt_tf zt_fd X d zm_43 0 [(0, .ref x0), (1, .int x1), (2, .int x2)] [] h Q := by
  refine zz_J.c 1 (.int 0) rfl rfl rfl rfl ?_
  refine zz_J.n 2 rfl rfl rfl ?_
  refine zz_J.n 3 rfl rfl rfl ?_
  refine zz_J.n 5 rfl rfl rfl ?_
  exact zz_J.weak (k hR) rfl ⟨rfl, rfl, rfl, rfl, trivial⟩
theorem cb_43_5 {X : Nat → Option zz_C} {h : zz_H} {t : cS} {s : mS} {d : Nat} {Q : zz_O → zz_H → Prop} {x0 : Nat} {x1 : Int32} {x3 : Int32} {x4 : Int32} (hR : kR h t s) (k1 : x1 ≤ x4 → (∀ {h : zz_H}, kR h t s → zz_J zp_P zt_tf zt_fd X d zm_43 61 [(4, .int x4)] [] h Q)) (k2 : ¬ x1 ≤ x4 → (∀ {h : zz_H}, kR h t s → zz_J zp_P zt_tf zt_fd X d zm_43 11 [(0, .ref x0), (1, .int x1), (3, .int x3), (4, .int x4)] [] h Q)) : zz_J zp_P zt_tf zt_fd X d zm_43 5 [(0, .ref x0), (1, .int x1), (3, .int x3), (4, .int x4)] [] h Q := by
  refine zz_J.n 7 rfl rfl rfl ?_
  refine zz_J.n 8 rfl rfl rfl ?_
  refine zz_J.b2 61 11 (A := x1 ≤ x4) rfl rfl (by decide) rfl rfl (fun c => ?_) (fun c => ?_)
  · exact zz_J.weak (k1 c hR) rfl ⟨rfl, trivial⟩
  · exact zz_J.weak (k2 c hR) rfl ⟨rfl, rfl, rfl, rfl, trivial⟩
theorem cb_43_11 {X : Nat → Option zz_C} {h : zz_H} {t : cS} {s : mS} {d : Nat} {Q : zz_O → zz_H → Prop} {x0 : Nat} {x1 : Int32} {x3 : Int32} {x4 : Int32} (hR : kR h t s) (e0 : kD t 1 = x0) (e1 : ¬ (x4 < 0 ∨ (kA t 1).1 ≤ (Int32.toNatClampNeg x4))) (k1 : ¬ ((kA t 1).2 (Int32.toNatClampNeg x4)) = 10 → (∀ {h : zz_H}, kR h t s → zz_J zp_P zt_tf zt_fd X d zm_43 29 [(0, .ref x0), (1, .int x1), (3, .int x3), (4, .int x4), (5, .int ((kA t 1).2 (Int32.toNatClampNeg x4)))] [] h Q)) (k2 : ¬ ¬ ((kA t 1).2 (Int32.toNatClampNeg x4)) = 10 → (∀ {h : zz_H}, kR h t s → zz_J zp_P zt_tf zt_fd X d zm_43 24 [(0, .ref x0), (1, .int x1), (4, .int x4)] [] h Q)) : zz_J zp_P zt_tf zt_fd X d zm_43 11 [(0, .ref x0), (1, .int x1), (3, .int x3), (4, .int x4)] [] h Q := by
  refine zz_J.n 12 rfl rfl rfl ?_
  refine zz_J.n 14 rfl rfl rfl ?_
  refine zz_J.ab 15 rfl (hR.ab (w := ((kA t 1).2 (Int32.toNatClampNeg x4))) ka_1 e0 (by decide) e1 rfl) rfl ?_
  refine zz_J.n 17 rfl rfl rfl ?_
  refine zz_J.n 19 rfl rfl rfl ?_
  refine zz_J.c 21 (.int 10) rfl rfl rfl rfl ?_
  refine zz_J.b2 29 24 (A := ¬ ((kA t 1).2 (Int32.toNatClampNeg x4)) = 10) rfl (zz_cond_ne _ _) (by decide) rfl rfl (fun c => ?_) (fun c => ?_)
  · exact zz_J.weak (k1 c hR) rfl ⟨rfl, rfl, rfl, rfl, rfl, trivial⟩
  · exact zz_J.weak (k2 c hR) rfl ⟨rfl, rfl, rfl, trivial⟩
theorem cb_43_24 {X : Nat → Option zz_C} {h : zz_H} {t : cS} {s : mS} {d : Nat} {Q : zz_O → zz_H → Prop} {x0 : Nat} {x1 : Int32} {x4 : Int32} (hR : kR h t s) (k : ∀ {h : zz_H}, kR h t s → zz_J zp_P zt_tf zt_fd X d zm_43 55 [(0, .ref x0), (1, .int x1), (3, .int 0), (4, .int x4)] [] h Q) : zz_J zp_P zt_tf zt_fd X d zm_43 24 [(0, .ref x0), (1, .int x1), (4, .int x4)] [] h Q := by
  refine zz_J.c 25 (.int 0) rfl rfl rfl rfl ?_
  refine zz_J.n 26 rfl rfl rfl ?_
  refine zz_J.n 55 rfl rfl rfl ?_
  exact zz_J.weak (k hR) rfl ⟨rfl, rfl, rfl, rfl, trivial⟩
theorem cb_43_29 {X : Nat → Option zz_C} {h : zz_H} {t : cS} {s : mS} {d : Nat} {Q : zz_O → zz_H → Prop} {x0 : Nat} {x1 : Int32} {x3 : Int32} {x4 : Int32} {x5 : Int32} (hR : kR h t s) (k1 : ¬ x5 = 35 → (∀ {h : zz_H}, kR h t s → zz_J zp_P zt_tf zt_fd X d zm_43 41 [(0, .ref x0), (1, .int x1), (3, .int x3), (4, .int x4), (5, .int x5)] [] h Q)) (k2 : ¬ ¬ x5 = 35 → (∀ {h : zz_H}, kR h t s → zz_J zp_P zt_tf zt_fd X d zm_43 36 [(0, .ref x0), (1, .int x1), (4, .int x4)] [] h Q)) : zz_J zp_P zt_tf zt_fd X d zm_43 29 [(0, .ref x0), (1, .int x1), (3, .int x3), (4, .int x4), (5, .int x5)] [] h Q := by
  refine zz_J.n 31 rfl rfl rfl ?_
  refine zz_J.c 33 (.int 35) rfl rfl rfl rfl ?_
  refine zz_J.b2 41 36 (A := ¬ x5 = 35) rfl (zz_cond_ne _ _) (by decide) rfl rfl (fun c => ?_) (fun c => ?_)
  · exact zz_J.weak (k1 c hR) rfl ⟨rfl, rfl, rfl, rfl, rfl, trivial⟩
  · exact zz_J.weak (k2 c hR) rfl ⟨rfl, rfl, rfl, trivial⟩
theorem cb_43_36 {X : Nat → Option zz_C} {h : zz_H} {t : cS} {s : mS} {d : Nat} {Q : zz_O → zz_H → Prop} {x0 : Nat} {x1 : Int32} {x4 : Int32} (hR : kR h t s) (k : ∀ {h : zz_H}, kR h t s → zz_J zp_P zt_tf zt_fd X d zm_43 55 [(0, .ref x0), (1, .int x1), (3, .int 1), (4, .int x4)] [] h Q) : zz_J zp_P zt_tf zt_fd X d zm_43 36 [(0, .ref x0), (1, .int x1), (4, .int x4)] [] h Q := by
  refine zz_J.c 37 (.int 1) rfl rfl rfl rfl ?_
  refine zz_J.n 38 rfl rfl rfl ?_
  refine zz_J.n 55 rfl rfl rfl ?_
  exact zz_J.weak (k hR) rfl ⟨rfl, rfl, rfl, rfl, trivial⟩
theorem cb_43_41 {X : Nat → Option zz_C} {h : zz_H} {t : cS} {s : mS} {d : Nat} {Q : zz_O → zz_H → Prop} {x0 : Nat} {x1 : Int32} {x3 : Int32} {x4 : Int32} {x5 : Int32} (hR : kR h t s) (k1 : x5 = 32 → (∀ {h : zz_H}, kR h t s → zz_J zp_P zt_tf zt_fd X d zm_43 55 [(0, .ref x0), (1, .int x1), (3, .int x3), (4, .int x4)] [] h Q)) (k2 : ¬ x5 = 32 → (∀ {h : zz_H}, kR h t s → zz_J zp_P zt_tf zt_fd X d zm_43 48 [(0, .ref x0), (1, .int x1), (3, .int x3), (4, .int x4)] [] h Q)) : zz_J zp_P zt_tf zt_fd X d zm_43 41 [(0, .ref x0), (1, .int x1), (3, .int x3), (4, .int x4), (5, .int x5)] [] h Q := by
  refine zz_J.n 43 rfl rfl rfl ?_
  refine zz_J.c 45 (.int 32) rfl rfl rfl rfl ?_
  refine zz_J.b2 55 48 (A := x5 = 32) rfl rfl (by decide) rfl rfl (fun c => ?_) (fun c => ?_)
  · exact zz_J.weak (k1 c hR) rfl ⟨rfl, rfl, rfl, rfl, trivial⟩
  · exact zz_J.weak (k2 c hR) rfl ⟨rfl, rfl, rfl, rfl, trivial⟩
theorem cb_43_48 {X : Nat → Option zz_C} {h : zz_H} {t : cS} {s : mS} {d : Nat} {Q : zz_O → zz_H → Prop} {x0 : Nat} {x1 : Int32} {x3 : Int32} {x4 : Int32} (hR : kR h t s) (k1 : ¬ x3 = 0 → (∀ {h : zz_H}, kR h t s → zz_J zp_P zt_tf zt_fd X d zm_43 55 [(0, .ref x0), (1, .int x1), (3, .int x3), (4, .int x4)] [] h Q)) (k2 : ¬ ¬ x3 = 0 → (∀ {h : zz_H}, kR h t s → zz_J zp_P zt_tf zt_fd X d zm_43 52 [(4, .int x4)] [] h Q)) : zz_J zp_P zt_tf zt_fd X d zm_43 48 [(0, .ref x0), (1, .int x1), (3, .int x3), (4, .int x4)] [] h Q := by
  refine zz_J.n 49 rfl rfl rfl ?_
  refine zz_J.b1 55 52 (A := ¬ x3 = 0) rfl (zz_cond_ne _ _) (by decide) rfl rfl (fun c => ?_) (fun c => ?_)
  · exact zz_J.weak (k1 c hR) rfl ⟨rfl, rfl, rfl, rfl, trivial⟩
  · exact zz_J.weak (k2 c hR) rfl ⟨rfl, trivial⟩
theorem cb_43_52 {X : Nat → Option zz_C} {h : zz_H} {t : cS} {s : mS} {d : Nat} {Q : zz_O → zz_H → Prop} {x4 : Int32} (hR : kR h t s) (k : ∀ {h : zz_H}, kR h t s → zz_J zp_P zt_tf zt_fd X d zm_43 61 [(4, .int x4)] [] h Q) : zz_J zp_P zt_tf zt_fd X d zm_43 52 [(4, .int x4)] [] h Q := by
  refine zz_J.n 61 rfl rfl rfl ?_
  exact zz_J.weak (k hR) rfl ⟨rfl, trivial⟩
theorem cb_43_55 {X : Nat → Option zz_C} {h : zz_H} {t : cS} {s : mS} {d : Nat} {Q : zz_O → zz_H → Prop} {x0 : Nat} {x1 : Int32} {x3 : Int32} {x4 : Int32} (hR : kR h t s) (k : ∀ {h : zz_H}, kR h t s → zz_J zp_P zt_tf zt_fd X d zm_43 5 [(0, .ref x0), (1, .int x1), (3, .int x3), (4, .int (x4 + 1))] [] h Q) : zz_J zp_P zt_tf zt_fd X d zm_43 55 [(0, .ref x0), (1, .int x1), (3, .int x3), (4, .int x4)] [] h Q := by
  refine zz_J.n 58 rfl rfl rfl ?_
  refine zz_J.n 5 rfl rfl rfl ?_
  exact zz_J.weak (k hR) rfl ⟨rfl, rfl, rfl, rfl, trivial⟩
theorem cb_43_61 {X : Nat → Option zz_C} {h : zz_H} {t : cS} {s : mS} {d : Nat} {Q : zz_O → zz_H → Prop} {x4 : Int32} (hR : kR h t s) (k : ∀ {h : zz_H}, kR h t s → Q (.inl (some (.int x4))) h) : zz_J zp_P zt_tf zt_fd X d zm_43 61 [(4, .int x4)] [] h Q := by
  refine zz_J.n 63 rfl rfl rfl ?_
  refine zz_J.ret rfl rfl rfl ?_
  exact k hR
def cf_43_61 (N : Nat) (X : Nat → Option zz_C) (x4 : Int32) (t : cS) : kO := some (t, .inl (some (.int x4)))
theorem cr_43_61 {X : Nat → Option zz_C} {s : mS} {N : Nat} {d : Nat} (hd : 0 ≤ d) {Q : zz_O → zz_H → Prop} {x4 : Int32} {h : zz_H} {t t' : cS} {o : kY} (hR : kR h t s) (hf : cf_43_61 N X x4 t = some (t', o)) (k : (∀ h', kR h' t' s → kE o Q h')) : zz_J zp_P zt_tf zt_fd X d zm_43 61 [(4, .int x4)] [] h Q := by
  unfold cf_43_61 at hf
  cases hf
  exact cb_43_61 hR  (fun {h} hR => k h hR)
def cf_43_52 (N : Nat) (X : Nat → Option zz_C) (x4 : Int32) (t : cS) : kO := cf_43_61 N X x4 t
theorem cr_43_52 {X : Nat → Option zz_C} {s : mS} {N : Nat} {d : Nat} (hd : 0 ≤ d) {Q : zz_O → zz_H → Prop} {x4 : Int32} {h : zz_H} {t t' : cS} {o : kY} (hR : kR h t s) (hf : cf_43_52 N X x4 t = some (t', o)) (k : (∀ h', kR h' t' s → kE o Q h')) : zz_J zp_P zt_tf zt_fd X d zm_43 52 [(4, .int x4)] [] h Q := by
  unfold cf_43_52 at hf
  exact cb_43_52 hR  (fun hR => cr_43_61 hd hR hf k)
def cf_43_55 (N : Nat) (X : Nat → Option zz_C) (rc : Nat → Nat → Int32 → Int32 → Int32 → cS → kO) (x0 : Nat) (x1 : Int32) (x3 : Int32) (x4 : Int32) (t : cS) : kO := rc 0 x0 x1 x3 (x4 + 1) t
theorem cr_43_55 {X : Nat → Option zz_C} {s : mS} {N : Nat} {d : Nat} (hd : 0 ≤ d) {rc : Nat → Nat → Int32 → Int32 → Int32 → cS → kO} (hrc0 : ∀ {Q : zz_O → zz_H → Prop} {x0 : Nat} {x1 : Int32} {x3 : Int32} {x4 : Int32} {h : zz_H} {t t' : cS} {o : kY}, kR h t s → rc 0 x0 x1 x3 x4 t = some (t', o) → (∀ h', kR h' t' s → kE o Q h') → zz_J zp_P zt_tf zt_fd X d zm_43 5 [(0, .ref x0), (1, .int x1), (3, .int x3), (4, .int x4)] [] h Q) {Q : zz_O → zz_H → Prop} {x0 : Nat} {x1 : Int32} {x3 : Int32} {x4 : Int32} {h : zz_H} {t t' : cS} {o : kY} (hR : kR h t s) (hf : cf_43_55 N X rc x0 x1 x3 x4 t = some (t', o)) (k : (∀ h', kR h' t' s → kE o Q h')) : zz_J zp_P zt_tf zt_fd X d zm_43 55 [(0, .ref x0), (1, .int x1), (3, .int x3), (4, .int x4)] [] h Q := by
  unfold cf_43_55 at hf
  exact cb_43_55 hR  (fun hR => hrc0 hR hf k)
def cf_43_24 (N : Nat) (X : Nat → Option zz_C) (rc : Nat → Nat → Int32 → Int32 → Int32 → cS → kO) (x0 : Nat) (x1 : Int32) (x4 : Int32) (t : cS) : kO := cf_43_55 N X rc x0 x1 0 x4 t
theorem cr_43_24 {X : Nat → Option zz_C} {s : mS} {N : Nat} {d : Nat} (hd : 0 ≤ d) {rc : Nat → Nat → Int32 → Int32 → Int32 → cS → kO} (hrc0 : ∀ {Q : zz_O → zz_H → Prop} {x0 : Nat} {x1 : Int32} {x3 : Int32} {x4 : Int32} {h : zz_H} {t t' : cS} {o : kY}, kR h t s → rc 0 x0 x1 x3 x4 t = some (t', o) → (∀ h', kR h' t' s → kE o Q h') → zz_J zp_P zt_tf zt_fd X d zm_43 5 [(0, .ref x0), (1, .int x1), (3, .int x3), (4, .int x4)] [] h Q) {Q : zz_O → zz_H → Prop} {x0 : Nat} {x1 : Int32} {x4 : Int32} {h : zz_H} {t t' : cS} {o : kY} (hR : kR h t s) (hf : cf_43_24 N X rc x0 x1 x4 t = some (t', o)) (k : (∀ h', kR h' t' s → kE o Q h')) : zz_J zp_P zt_tf zt_fd X d zm_43 24 [(0, .ref x0), (1, .int x1), (4, .int x4)] [] h Q := by
  unfold cf_43_24 at hf
  exact cb_43_24 hR  (fun hR => cr_43_55 hd hrc0 hR hf k)
def cf_43_36 (N : Nat) (X : Nat → Option zz_C) (rc : Nat → Nat → Int32 → Int32 → Int32 → cS → kO) (x0 : Nat) (x1 : Int32) (x4 : Int32) (t : cS) : kO := cf_43_55 N X rc x0 x1 1 x4 t
theorem cr_43_36 {X : Nat → Option zz_C} {s : mS} {N : Nat} {d : Nat} (hd : 0 ≤ d) {rc : Nat → Nat → Int32 → Int32 → Int32 → cS → kO} (hrc0 : ∀ {Q : zz_O → zz_H → Prop} {x0 : Nat} {x1 : Int32} {x3 : Int32} {x4 : Int32} {h : zz_H} {t t' : cS} {o : kY}, kR h t s → rc 0 x0 x1 x3 x4 t = some (t', o) → (∀ h', kR h' t' s → kE o Q h') → zz_J zp_P zt_tf zt_fd X d zm_43 5 [(0, .ref x0), (1, .int x1), (3, .int x3), (4, .int x4)] [] h Q) {Q : zz_O → zz_H → Prop} {x0 : Nat} {x1 : Int32} {x4 : Int32} {h : zz_H} {t t' : cS} {o : kY} (hR : kR h t s) (hf : cf_43_36 N X rc x0 x1 x4 t = some (t', o)) (k : (∀ h', kR h' t' s → kE o Q h')) : zz_J zp_P zt_tf zt_fd X d zm_43 36 [(0, .ref x0), (1, .int x1), (4, .int x4)] [] h Q := by
  unfold cf_43_36 at hf
  exact cb_43_36 hR  (fun hR => cr_43_55 hd hrc0 hR hf k)
def cf_43_48 (N : Nat) (X : Nat → Option zz_C) (rc : Nat → Nat → Int32 → Int32 → Int32 → cS → kO) (x0 : Nat) (x1 : Int32) (x3 : Int32) (x4 : Int32) (t : cS) : kO := if ¬ x3 = 0 then cf_43_55 N X rc x0 x1 x3 x4 t else cf_43_52 N X x4 t
theorem cr_43_48 {X : Nat → Option zz_C} {s : mS} {N : Nat} {d : Nat} (hd : 0 ≤ d) {rc : Nat → Nat → Int32 → Int32 → Int32 → cS → kO} (hrc0 : ∀ {Q : zz_O → zz_H → Prop} {x0 : Nat} {x1 : Int32} {x3 : Int32} {x4 : Int32} {h : zz_H} {t t' : cS} {o : kY}, kR h t s → rc 0 x0 x1 x3 x4 t = some (t', o) → (∀ h', kR h' t' s → kE o Q h') → zz_J zp_P zt_tf zt_fd X d zm_43 5 [(0, .ref x0), (1, .int x1), (3, .int x3), (4, .int x4)] [] h Q) {Q : zz_O → zz_H → Prop} {x0 : Nat} {x1 : Int32} {x3 : Int32} {x4 : Int32} {h : zz_H} {t t' : cS} {o : kY} (hR : kR h t s) (hf : cf_43_48 N X rc x0 x1 x3 x4 t = some (t', o)) (k : (∀ h', kR h' t' s → kE o Q h')) : zz_J zp_P zt_tf zt_fd X d zm_43 48 [(0, .ref x0), (1, .int x1), (3, .int x3), (4, .int x4)] [] h Q := by
  unfold cf_43_48 at hf
  refine cb_43_48 hR  (fun c {h} hR => ?_) (fun c {h} hR => ?_)
  · rw [if_pos c] at hf
    exact cr_43_55 hd hrc0 hR hf k
  · rw [if_neg c] at hf
    exact cr_43_52 hd hR hf k
def cf_43_41 (N : Nat) (X : Nat → Option zz_C) (rc : Nat → Nat → Int32 → Int32 → Int32 → cS → kO) (x0 : Nat) (x1 : Int32) (x3 : Int32) (x4 : Int32) (x5 : Int32) (t : cS) : kO := if x5 = 32 then cf_43_55 N X rc x0 x1 x3 x4 t else cf_43_48 N X rc x0 x1 x3 x4 t
theorem cr_43_41 {X : Nat → Option zz_C} {s : mS} {N : Nat} {d : Nat} (hd : 0 ≤ d) {rc : Nat → Nat → Int32 → Int32 → Int32 → cS → kO} (hrc0 : ∀ {Q : zz_O → zz_H → Prop} {x0 : Nat} {x1 : Int32} {x3 : Int32} {x4 : Int32} {h : zz_H} {t t' : cS} {o : kY}, kR h t s → rc 0 x0 x1 x3 x4 t = some (t', o) → (∀ h', kR h' t' s → kE o Q h') → zz_J zp_P zt_tf zt_fd X d zm_43 5 [(0, .ref x0), (1, .int x1), (3, .int x3), (4, .int x4)] [] h Q) {Q : zz_O → zz_H → Prop} {x0 : Nat} {x1 : Int32} {x3 : Int32} {x4 : Int32} {x5 : Int32} {h : zz_H} {t t' : cS} {o : kY} (hR : kR h t s) (hf : cf_43_41 N X rc x0 x1 x3 x4 x5 t = some (t', o)) (k : (∀ h', kR h' t' s → kE o Q h')) : zz_J zp_P zt_tf zt_fd X d zm_43 41 [(0, .ref x0), (1, .int x1), (3, .int x3), (4, .int x4), (5, .int x5)] [] h Q := by
  unfold cf_43_41 at hf
  refine cb_43_41 hR  (fun c {h} hR => ?_) (fun c {h} hR => ?_)
  · rw [if_pos c] at hf
    exact cr_43_55 hd hrc0 hR hf k
  · rw [if_neg c] at hf
    exact cr_43_48 hd hrc0 hR hf k
def cf_43_29 (N : Nat) (X : Nat → Option zz_C) (rc : Nat → Nat → Int32 → Int32 → Int32 → cS → kO) (x0 : Nat) (x1 : Int32) (x3 : Int32) (x4 : Int32) (x5 : Int32) (t : cS) : kO := if ¬ x5 = 35 then cf_43_41 N X rc x0 x1 x3 x4 x5 t else cf_43_36 N X rc x0 x1 x4 t
theorem cr_43_29 {X : Nat → Option zz_C} {s : mS} {N : Nat} {d : Nat} (hd : 0 ≤ d) {rc : Nat → Nat → Int32 → Int32 → Int32 → cS → kO} (hrc0 : ∀ {Q : zz_O → zz_H → Prop} {x0 : Nat} {x1 : Int32} {x3 : Int32} {x4 : Int32} {h : zz_H} {t t' : cS} {o : kY}, kR h t s → rc 0 x0 x1 x3 x4 t = some (t', o) → (∀ h', kR h' t' s → kE o Q h') → zz_J zp_P zt_tf zt_fd X d zm_43 5 [(0, .ref x0), (1, .int x1), (3, .int x3), (4, .int x4)] [] h Q) {Q : zz_O → zz_H → Prop} {x0 : Nat} {x1 : Int32} {x3 : Int32} {x4 : Int32} {x5 : Int32} {h : zz_H} {t t' : cS} {o : kY} (hR : kR h t s) (hf : cf_43_29 N X rc x0 x1 x3 x4 x5 t = some (t', o)) (k : (∀ h', kR h' t' s → kE o Q h')) : zz_J zp_P zt_tf zt_fd X d zm_43 29 [(0, .ref x0), (1, .int x1), (3, .int x3), (4, .int x4), (5, .int x5)] [] h Q := by
  unfold cf_43_29 at hf
  refine cb_43_29 hR  (fun c {h} hR => ?_) (fun c {h} hR => ?_)
  · rw [if_pos c] at hf
    exact cr_43_41 hd hrc0 hR hf k
  · rw [if_neg c] at hf
    exact cr_43_36 hd hrc0 hR hf k
def cf_43_11 (N : Nat) (X : Nat → Option zz_C) (rc : Nat → Nat → Int32 → Int32 → Int32 → cS → kO) (x0 : Nat) (x1 : Int32) (x3 : Int32) (x4 : Int32) (t : cS) : kO := if kD t 1 = x0 then (if ¬ (x4 < 0 ∨ (kA t 1).1 ≤ (Int32.toNatClampNeg x4)) then (if ¬ ((kA t 1).2 (Int32.toNatClampNeg x4)) = 10 then cf_43_29 N X rc x0 x1 x3 x4 ((kA t 1).2 (Int32.toNatClampNeg x4)) t else cf_43_24 N X rc x0 x1 x4 t) else none) else none
theorem cr_43_11 {X : Nat → Option zz_C} {s : mS} {N : Nat} {d : Nat} (hd : 0 ≤ d) {rc : Nat → Nat → Int32 → Int32 → Int32 → cS → kO} (hrc0 : ∀ {Q : zz_O → zz_H → Prop} {x0 : Nat} {x1 : Int32} {x3 : Int32} {x4 : Int32} {h : zz_H} {t t' : cS} {o : kY}, kR h t s → rc 0 x0 x1 x3 x4 t = some (t', o) → (∀ h', kR h' t' s → kE o Q h') → zz_J zp_P zt_tf zt_fd X d zm_43 5 [(0, .ref x0), (1, .int x1), (3, .int x3), (4, .int x4)] [] h Q) {Q : zz_O → zz_H → Prop} {x0 : Nat} {x1 : Int32} {x3 : Int32} {x4 : Int32} {h : zz_H} {t t' : cS} {o : kY} (hR : kR h t s) (hf : cf_43_11 N X rc x0 x1 x3 x4 t = some (t', o)) (k : (∀ h', kR h' t' s → kE o Q h')) : zz_J zp_P zt_tf zt_fd X d zm_43 11 [(0, .ref x0), (1, .int x1), (3, .int x3), (4, .int x4)] [] h Q := by
  unfold cf_43_11 at hf
  obtain ⟨e0, hf⟩ := ko_if hf
  obtain ⟨e1, hf⟩ := ko_if hf
  refine cb_43_11 hR e0 e1 (fun c {h} hR => ?_) (fun c {h} hR => ?_)
  · rw [if_pos c] at hf
    exact cr_43_29 hd hrc0 hR hf k
  · rw [if_neg c] at hf
    exact cr_43_24 hd hrc0 hR hf k
def cf_43_5 (N : Nat) (X : Nat → Option zz_C) (rc : Nat → Nat → Int32 → Int32 → Int32 → cS → kO) (x0 : Nat) (x1 : Int32) (x3 : Int32) (x4 : Int32) (t : cS) : kO := if x1 ≤ x4 then cf_43_61 N X x4 t else cf_43_11 N X rc x0 x1 x3 x4 t
theorem cr_43_5 {X : Nat → Option zz_C} {s : mS} {N : Nat} {d : Nat} (hd : 0 ≤ d) {rc : Nat → Nat → Int32 → Int32 → Int32 → cS → kO} (hrc0 : ∀ {Q : zz_O → zz_H → Prop} {x0 : Nat} {x1 : Int32} {x3 : Int32} {x4 : Int32} {h : zz_H} {t t' : cS} {o : kY}, kR h t s → rc 0 x0 x1 x3 x4 t = some (t', o) → (∀ h', kR h' t' s → kE o Q h') → zz_J zp_P zt_tf zt_fd X d zm_43 5 [(0, .ref x0), (1, .int x1), (3, .int x3), (4, .int x4)] [] h Q) {Q : zz_O → zz_H → Prop} {x0 : Nat} {x1 : Int32} {x3 : Int32} {x4 : Int32} {h : zz_H} {t t' : cS} {o : kY} (hR : kR h t s) (hf : cf_43_5 N X rc x0 x1 x3 x4 t = some (t', o)) (k : (∀ h', kR h' t' s → kE o Q h')) : zz_J zp_P zt_tf zt_fd X d zm_43 5 [(0, .ref x0), (1, .int x1), (3, .int x3), (4, .int x4)] [] h Q := by
  unfold cf_43_5 at hf
  refine cb_43_5 hR  (fun c {h} hR => ?_) (fun c {h} hR => ?_)
  · rw [if_pos c] at hf
    exact cr_43_61 hd hR hf k
  · rw [if_neg c] at hf
    exact cr_43_11 hd hrc0 hR hf k
def cf_43_L2 (N : Nat) (X : Nat → Option zz_C) : Nat → Nat → Nat → Int32 → Int32 → Int32 → cS → kO
  | 0, _, _, _, _, _, _ => none
  | n + 1, l, x0, x1, x3, x4, t => if l = 0 then cf_43_5 N X (cf_43_L2 N X n) x0 x1 x3 x4 t else none
theorem cr_43_L2 {X : Nat → Option zz_C} {s : mS} {N : Nat} {d : Nat} (hd : 0 ≤ d) : ∀ n : Nat, (∀ {Q : zz_O → zz_H → Prop} {x0 : Nat} {x1 : Int32} {x3 : Int32} {x4 : Int32} {h : zz_H} {t t' : cS} {o : kY}, kR h t s → cf_43_L2 N X n 0 x0 x1 x3 x4 t = some (t', o) → (∀ h', kR h' t' s → kE o Q h') → zz_J zp_P zt_tf zt_fd X d zm_43 5 [(0, .ref x0), (1, .int x1), (3, .int x3), (4, .int x4)] [] h Q) := by
  intro n
  induction n with
  | zero => exact (fun _ hf _ => by cases hf)
  | succ n ih =>
    have h0 := @ih
    intro Q _ _ _ _ h t t' o hR hf k
    unfold cf_43_L2 at hf
    rw [if_pos rfl] at hf
    exact cr_43_5 hd h0 hR hf k
def cf_43_0 (N : Nat) (X : Nat → Option zz_C) (x0 : Nat) (x1 : Int32) (x2 : Int32) (t : cS) : kO := cf_43_L2 N X N 0 x0 x1 0 x2 t
theorem cr_43_0 {X : Nat → Option zz_C} {s : mS} {N : Nat} {d : Nat} (hd : 0 ≤ d) {Q : zz_O → zz_H → Prop} {x0 : Nat} {x1 : Int32} {x2 : Int32} {h : zz_H} {t t' : cS} {o : kY} (hR : kR h t s) (hf : cf_43_0 N X x0 x1 x2 t = some (t', o)) (k : (∀ h', kR h' t' s → kE o Q h')) : zz_J zp_P zt_tf zt_fd X d zm_43 0 [(0, .ref x0), (1, .int x1), (2, .int x2)] [] h Q := by
  unfold cf_43_0 at hf
  exact cb_43_0 hR  (fun hR => cr_43_L2 hd N hR hf k)
/-- skipBlanks -/
def cf_43 (N : Nat) (X : Nat → Option zz_C) (x0 : Nat) (x1 : Int32) (x2 : Int32) (t : cS) : kO := cf_43_0 N X x0 x1 x2 t
theorem cr_43 {X : Nat → Option zz_C} {s : mS} {N : Nat} {d : Nat} (hd : 0 ≤ d) {Q : zz_O → zz_H → Prop} {x0 : Nat} {x1 : Int32} {x2 : Int32} {h : zz_H} {t t' : cS} {o : kY} (hR : kR h t s) (hf : cf_43 N X x0 x1 x2 t = some (t', o)) (k : ∀ h', kR h' t' s → kE o Q h') : zz_J zp_P zt_tf zt_fd X d zm_43 0 [(0, .ref x0), (1, .int x1), (2, .int x2)] [] h Q := by
  unfold cf_43 at hf
  exact zz_J.weak (cr_43_0 hd hR hf k) rfl ⟨rfl, rfl, rfl, trivial⟩
/-! yX11_numberOf (J)I -/
theorem cb_247_0 {X : Nat → Option zz_C} {h : zz_H} {t : cS} {s : mS} {d : Nat} {Q : zz_O → zz_H → Prop} {x0 : Int64} (hR : kR h t s) (k : ∀ {h : zz_H}, kR h t s → zz_J zp_P zt_tf zt_fd X d zm_247 2 [(0, .long x0), (2, .int 0)] [] h Q) : zz_J zp_P zt_tf zt_fd X d zm_247 0 [(0, .long x0)] [] h Q := by
  refine zz_J.c 1 (.int 0) rfl rfl rfl rfl ?_
  refine zz_J.n 2 rfl rfl rfl ?_
  exact zz_J.weak (k hR) rfl ⟨rfl, rfl, trivial⟩
theorem cb_247_2 {X : Nat → Option zz_C} {h : zz_H} {t : cS} {s : mS} {d : Nat} {Q : zz_O → zz_H → Prop} {x0 : Int64} {x2 : Int32} (hR : kR h t s) {w0 : Int32} (e0 : hlen X [] (zz_out + 42) = some w0) (k1 : w0 ≤ x2 → (∀ {h : zz_H}, kR h t s → zz_J zp_P zt_tf zt_fd X d zm_247 31 [] [] h Q)) (k2 : ¬ w0 ≤ x2 → (∀ {h : zz_H}, kR h t s → zz_J zp_P zt_tf zt_fd X d zm_247 10 [(0, .long x0), (2, .int x2)] [] h Q)) : zz_J zp_P zt_tf zt_fd X d zm_247 2 [(0, .long x0), (2, .int x2)] [] h Q := by
  refine zz_J.n 3 rfl rfl rfl ?_
  refine zz_J.c 6 (.ref (zz_out + 42)) rfl rfl rfl rfl ?_
  refine zz_J.ln 7 rfl ((hx_ln (Nat.not_lt.mpr (Nat.le_add_right _ _))).trans e0) rfl ?_
  refine zz_J.b2 31 10 (A := w0 ≤ x2) rfl rfl (by decide) rfl rfl (fun c => ?_) (fun c => ?_)
  · exact zz_J.weak (k1 c hR) rfl trivial
  · exact zz_J.weak (k2 c hR) rfl ⟨rfl, rfl, trivial⟩
theorem cb_247_10 {X : Nat → Option zz_C} {h : zz_H} {t : cS} {s : mS} {d : Nat} {Q : zz_O → zz_H → Prop} {x0 : Int64} {x2 : Int32} (hR : kR h t s) {w0 : Nat} (e0 : har X [] (zz_out + 42) x2 = some w0) {w1 : Int64} (e1 : hgl X [] w0 20 0 = some w1) (k1 : ¬ (lg_cmp w1 x0) = 0 → (∀ {h : zz_H}, kR h t s → zz_J zp_P zt_tf zt_fd X d zm_247 25 [(0, .long x0), (2, .int x2)] [] h Q)) (k2 : ¬ ¬ (lg_cmp w1 x0) = 0 → (∀ {h : zz_H}, kR h t s → zz_J zp_P zt_tf zt_fd X d zm_247 23 [(2, .int x2)] [] h Q)) : zz_J zp_P zt_tf zt_fd X d zm_247 10 [(0, .long x0), (2, .int x2)] [] h Q := by
  refine zz_J.c 13 (.ref (zz_out + 42)) rfl rfl rfl rfl ?_
  refine zz_J.n 14 rfl rfl rfl ?_
  refine zz_J.ar 15 rfl ((hx_ar (Nat.not_lt.mpr (Nat.le_add_right _ _))).trans e0) rfl ?_
  refine zz_J.gl 18 rfl e1 rfl ?_
  refine zz_J.n 19 rfl rfl rfl ?_
  refine zz_J.n 20 rfl rfl rfl ?_
  refine zz_J.b1 25 23 (A := ¬ (lg_cmp w1 x0) = 0) rfl (zz_cond_ne _ _) (by decide) rfl rfl (fun c => ?_) (fun c => ?_)
  · exact zz_J.weak (k1 c hR) rfl ⟨rfl, rfl, trivial⟩
  · exact zz_J.weak (k2 c hR) rfl ⟨rfl, trivial⟩
theorem cb_247_23 {X : Nat → Option zz_C} {h : zz_H} {t : cS} {s : mS} {d : Nat} {Q : zz_O → zz_H → Prop} {x2 : Int32} (hR : kR h t s) (k : ∀ {h : zz_H}, kR h t s → Q (.inl (some (.int x2))) h) : zz_J zp_P zt_tf zt_fd X d zm_247 23 [(2, .int x2)] [] h Q := by
  refine zz_J.n 24 rfl rfl rfl ?_
  refine zz_J.ret rfl rfl rfl ?_
  exact k hR
theorem cb_247_25 {X : Nat → Option zz_C} {h : zz_H} {t : cS} {s : mS} {d : Nat} {Q : zz_O → zz_H → Prop} {x0 : Int64} {x2 : Int32} (hR : kR h t s) (k : ∀ {h : zz_H}, kR h t s → zz_J zp_P zt_tf zt_fd X d zm_247 2 [(0, .long x0), (2, .int (x2 + 1))] [] h Q) : zz_J zp_P zt_tf zt_fd X d zm_247 25 [(0, .long x0), (2, .int x2)] [] h Q := by
  refine zz_J.n 28 rfl rfl rfl ?_
  refine zz_J.n 2 rfl rfl rfl ?_
  exact zz_J.weak (k hR) rfl ⟨rfl, rfl, trivial⟩
theorem cb_247_31 {X : Nat → Option zz_C} {h : zz_H} {t : cS} {s : mS} {d : Nat} {Q : zz_O → zz_H → Prop}  (hR : kR h t s) (k : ∀ {h : zz_H}, kR h t s → Q (.inl (some (.int (-1)))) h) : zz_J zp_P zt_tf zt_fd X d zm_247 31 [] [] h Q := by
  refine zz_J.c 32 (.int (-1)) rfl rfl rfl rfl ?_
  refine zz_J.ret rfl rfl rfl ?_
  exact k hR
def cf_247_31 (N : Nat) (X : Nat → Option zz_C)  (t : cS) : kO := some (t, .inl (some (.int (-1))))
theorem cr_247_31 {X : Nat → Option zz_C} {s : mS} {N : Nat} {d : Nat} (hd : 0 ≤ d) {Q : zz_O → zz_H → Prop}  {h : zz_H} {t t' : cS} {o : kY} (hR : kR h t s) (hf : cf_247_31 N X  t = some (t', o)) (k : (∀ h', kR h' t' s → kE o Q h')) : zz_J zp_P zt_tf zt_fd X d zm_247 31 [] [] h Q := by
  unfold cf_247_31 at hf
  cases hf
  exact cb_247_31 hR  (fun {h} hR => k h hR)
def cf_247_23 (N : Nat) (X : Nat → Option zz_C) (x2 : Int32) (t : cS) : kO := some (t, .inl (some (.int x2)))
theorem cr_247_23 {X : Nat → Option zz_C} {s : mS} {N : Nat} {d : Nat} (hd : 0 ≤ d) {Q : zz_O → zz_H → Prop} {x2 : Int32} {h : zz_H} {t t' : cS} {o : kY} (hR : kR h t s) (hf : cf_247_23 N X x2 t = some (t', o)) (k : (∀ h', kR h' t' s → kE o Q h')) : zz_J zp_P zt_tf zt_fd X d zm_247 23 [(2, .int x2)] [] h Q := by
  unfold cf_247_23 at hf
  cases hf
  exact cb_247_23 hR  (fun {h} hR => k h hR)
def cf_247_25 (N : Nat) (X : Nat → Option zz_C) (rc : Nat → Int64 → Int32 → cS → kO) (x0 : Int64) (x2 : Int32) (t : cS) : kO := rc 0 x0 (x2 + 1) t
theorem cr_247_25 {X : Nat → Option zz_C} {s : mS} {N : Nat} {d : Nat} (hd : 0 ≤ d) {rc : Nat → Int64 → Int32 → cS → kO} (hrc0 : ∀ {Q : zz_O → zz_H → Prop} {x0 : Int64} {x2 : Int32} {h : zz_H} {t t' : cS} {o : kY}, kR h t s → rc 0 x0 x2 t = some (t', o) → (∀ h', kR h' t' s → kE o Q h') → zz_J zp_P zt_tf zt_fd X d zm_247 2 [(0, .long x0), (2, .int x2)] [] h Q) {Q : zz_O → zz_H → Prop} {x0 : Int64} {x2 : Int32} {h : zz_H} {t t' : cS} {o : kY} (hR : kR h t s) (hf : cf_247_25 N X rc x0 x2 t = some (t', o)) (k : (∀ h', kR h' t' s → kE o Q h')) : zz_J zp_P zt_tf zt_fd X d zm_247 25 [(0, .long x0), (2, .int x2)] [] h Q := by
  unfold cf_247_25 at hf
  exact cb_247_25 hR  (fun hR => hrc0 hR hf k)
def cf_247_10 (N : Nat) (X : Nat → Option zz_C) (rc : Nat → Int64 → Int32 → cS → kO) (x0 : Int64) (x2 : Int32) (t : cS) : kO := co_b (har X [] (zz_out + 42) x2) (fun w0 => co_b (hgl X [] w0 20 0) (fun w1 => if ¬ (lg_cmp w1 x0) = 0 then cf_247_25 N X rc x0 x2 t else cf_247_23 N X x2 t))
theorem cr_247_10 {X : Nat → Option zz_C} {s : mS} {N : Nat} {d : Nat} (hd : 0 ≤ d) {rc : Nat → Int64 → Int32 → cS → kO} (hrc0 : ∀ {Q : zz_O → zz_H → Prop} {x0 : Int64} {x2 : Int32} {h : zz_H} {t t' : cS} {o : kY}, kR h t s → rc 0 x0 x2 t = some (t', o) → (∀ h', kR h' t' s → kE o Q h') → zz_J zp_P zt_tf zt_fd X d zm_247 2 [(0, .long x0), (2, .int x2)] [] h Q) {Q : zz_O → zz_H → Prop} {x0 : Int64} {x2 : Int32} {h : zz_H} {t t' : cS} {o : kY} (hR : kR h t s) (hf : cf_247_10 N X rc x0 x2 t = some (t', o)) (k : (∀ h', kR h' t' s → kE o Q h')) : zz_J zp_P zt_tf zt_fd X d zm_247 10 [(0, .long x0), (2, .int x2)] [] h Q := by
  unfold cf_247_10 at hf
  obtain ⟨w0, e0, hf⟩ := co_b_ok hf
  obtain ⟨w1, e1, hf⟩ := co_b_ok hf
  refine cb_247_10 hR e0 e1 (fun c {h} hR => ?_) (fun c {h} hR => ?_)
  · rw [if_pos c] at hf
    exact cr_247_25 hd hrc0 hR hf k
  · rw [if_neg c] at hf
    exact cr_247_23 hd hR hf k
def cf_247_2 (N : Nat) (X : Nat → Option zz_C) (rc : Nat → Int64 → Int32 → cS → kO) (x0 : Int64) (x2 : Int32) (t : cS) : kO := co_b (hlen X [] (zz_out + 42)) (fun w0 => if w0 ≤ x2 then cf_247_31 N X  t else cf_247_10 N X rc x0 x2 t)
theorem cr_247_2 {X : Nat → Option zz_C} {s : mS} {N : Nat} {d : Nat} (hd : 0 ≤ d) {rc : Nat → Int64 → Int32 → cS → kO} (hrc0 : ∀ {Q : zz_O → zz_H → Prop} {x0 : Int64} {x2 : Int32} {h : zz_H} {t t' : cS} {o : kY}, kR h t s → rc 0 x0 x2 t = some (t', o) → (∀ h', kR h' t' s → kE o Q h') → zz_J zp_P zt_tf zt_fd X d zm_247 2 [(0, .long x0), (2, .int x2)] [] h Q) {Q : zz_O → zz_H → Prop} {x0 : Int64} {x2 : Int32} {h : zz_H} {t t' : cS} {o : kY} (hR : kR h t s) (hf : cf_247_2 N X rc x0 x2 t = some (t', o)) (k : (∀ h', kR h' t' s → kE o Q h')) : zz_J zp_P zt_tf zt_fd X d zm_247 2 [(0, .long x0), (2, .int x2)] [] h Q := by
  unfold cf_247_2 at hf
  obtain ⟨w0, e0, hf⟩ := co_b_ok hf
  refine cb_247_2 hR e0 (fun c {h} hR => ?_) (fun c {h} hR => ?_)
  · rw [if_pos c] at hf
    exact cr_247_31 hd hR hf k
  · rw [if_neg c] at hf
    exact cr_247_10 hd hrc0 hR hf k
def cf_247_L2 (N : Nat) (X : Nat → Option zz_C) : Nat → Nat → Int64 → Int32 → cS → kO
  | 0, _, _, _, _ => none
  | n + 1, l, x0, x2, t => if l = 0 then cf_247_2 N X (cf_247_L2 N X n) x0 x2 t else none
theorem cr_247_L2 {X : Nat → Option zz_C} {s : mS} {N : Nat} {d : Nat} (hd : 0 ≤ d) : ∀ n : Nat, (∀ {Q : zz_O → zz_H → Prop} {x0 : Int64} {x2 : Int32} {h : zz_H} {t t' : cS} {o : kY}, kR h t s → cf_247_L2 N X n 0 x0 x2 t = some (t', o) → (∀ h', kR h' t' s → kE o Q h') → zz_J zp_P zt_tf zt_fd X d zm_247 2 [(0, .long x0), (2, .int x2)] [] h Q) := by
  intro n
  induction n with
  | zero => exact (fun _ hf _ => by cases hf)
  | succ n ih =>
    have h0 := @ih
    intro Q _ _ h t t' o hR hf k
    unfold cf_247_L2 at hf
    rw [if_pos rfl] at hf
    exact cr_247_2 hd h0 hR hf k
def cf_247_0 (N : Nat) (X : Nat → Option zz_C) (x0 : Int64) (t : cS) : kO := cf_247_L2 N X N 0 x0 0 t
theorem cr_247_0 {X : Nat → Option zz_C} {s : mS} {N : Nat} {d : Nat} (hd : 0 ≤ d) {Q : zz_O → zz_H → Prop} {x0 : Int64} {h : zz_H} {t t' : cS} {o : kY} (hR : kR h t s) (hf : cf_247_0 N X x0 t = some (t', o)) (k : (∀ h', kR h' t' s → kE o Q h')) : zz_J zp_P zt_tf zt_fd X d zm_247 0 [(0, .long x0)] [] h Q := by
  unfold cf_247_0 at hf
  exact cb_247_0 hR  (fun hR => cr_247_L2 hd N hR hf k)
/-- numberOf -/
def cf_247 (N : Nat) (X : Nat → Option zz_C) (x0 : Int64) (t : cS) : kO := cf_247_0 N X x0 t
theorem cr_247 {X : Nat → Option zz_C} {s : mS} {N : Nat} {d : Nat} (hd : 0 ≤ d) {Q : zz_O → zz_H → Prop} {x0 : Int64} {h : zz_H} {t t' : cS} {o : kY} (hR : kR h t s) (hf : cf_247 N X x0 t = some (t', o)) (k : ∀ h', kR h' t' s → kE o Q h') : zz_J zp_P zt_tf zt_fd X d zm_247 0 [(0, .long x0)] [] h Q := by
  unfold cf_247 at hf
  exact zz_J.weak (cr_247_0 hd hR hf k) rfl ⟨rfl, trivial⟩
/-! yX10_put (IIJ)V -/
theorem cb_45_0 {X : Nat → Option zz_C} {h : zz_H} {t : cS} {s : mS} {d : Nat} {Q : zz_O → zz_H → Prop} {x1 : Int32} {x2 : Int32} {x3 : Int64} (hR : kR h t s) (k1 : ¬ (kI t 3 3) = (Int32.ofNat (kA t 4).1) → (∀ {h : zz_H}, kR h t s → zz_J zp_P zt_tf zt_fd X d zm_45 63 [(0, .ref 3), (1, .int x1), (2, .int x2), (3, .long x3)] [] h Q)) (k2 : ¬ ¬ (kI t 3 3) = (Int32.ofNat (kA t 4).1) → (∀ {h : zz_H}, kR h t s → zz_J zp_P zt_tf zt_fd X d zm_45 12 [(0, .ref 3), (1, .int x1), (2, .int x2), (3, .long x3)] [] h Q)) : zz_J zp_P zt_tf zt_fd X d zm_45 0 [(0, .ref 3), (1, .int x1), (2, .int x2), (3, .long x3)] [] h Q := by
  refine zz_J.n 1 rfl rfl rfl ?_
  refine zz_J.g 4 rfl (hR.gv (v := .int (kI t 3 3)) ko_3 (by decide) rfl) rfl ?_
  refine zz_J.n 5 rfl rfl rfl ?_
  refine zz_J.g 8 rfl (hR.gv (v := .ref (kD t 4)) ko_3 (by decide) rfl) rfl ?_
  refine zz_J.ln 9 rfl (hR.ln (w := (Int32.ofNat (kA t 4).1)) ka_4 rfl (by decide) rfl) rfl ?_
  refine zz_J.b2 63 12 (A := ¬ (kI t 3 3) = (Int32.ofNat (kA t 4).1)) rfl (zz_cond_ne _ _) (by decide) rfl rfl (fun c => ?_) (fun c => ?_)
  · exact zz_J.weak (k1 c hR) rfl ⟨rfl, rfl, rfl, rfl, trivial⟩
  · exact zz_J.weak (k2 c hR) rfl ⟨rfl, rfl, rfl, rfl, trivial⟩
theorem cb_45_12 {X : Nat → Option zz_C} {h : zz_H} {t : cS} {s : mS} {d : Nat} {Q : zz_O → zz_H → Prop} {x1 : Int32} {x2 : Int32} {x3 : Int64} (hR : kR h t s) (e0 : ¬ (2 * (kI t 3 3)) < 0 ∧ (Int32.toNatClampNeg (2 * (kI t 3 3))) ≤ 1000000 ∧ (kA t 4).1 ≤ 1000000 ∧ ¬ (2 * (kI t 3 3)) = Int32.ofNat (kA t 4).1 ∧ (kN t) + 1 < zz_out) (k : ∀ {h : zz_H}, kR h (jMv (jNI t 1 (Int32.toNatClampNeg (2 * (kI t 3 3))) (kcp 0 (kA t 4).2 (Nat.min (kA t 4).1 (Int32.toNatClampNeg (2 * (kI t 3 3)))))) 4) s → zz_J zp_P zt_tf zt_fd X (d + 9) zm_45 29 [(0, .ref 3), (1, .int x1), (2, .int x2), (3, .long x3)] [] h Q) : zz_J zp_P zt_tf zt_fd X (d + 9) zm_45 12 [(0, .ref 3), (1, .int x1), (2, .int x2), (3, .long x3)] [] h Q := by
  refine zz_J.n 13 rfl rfl rfl ?_
  refine zz_J.n 14 rfl rfl rfl ?_
  refine zz_J.g 17 rfl (hR.gv (v := .ref (kD t 4)) ko_3 (by decide) rfl) rfl ?_
  refine zz_J.c 18 (.int 2) rfl rfl rfl rfl ?_
  refine zz_J.n 19 rfl rfl rfl ?_
  refine zz_J.g 22 rfl (hR.gv (v := .int (kI t 3 3)) ko_3 (by decide) rfl) rfl ?_
  refine zz_J.n 23 rfl rfl rfl ?_
  refine kq_copyi 26 rfl rfl hR (by omega) ka_4 rfl e0 (Nat.le_of_ble_eq_true rfl) (fun {h} hR => ?_)
  obtain ⟨h1, eq1, hR⟩ := hR.pMvi (k := 4) rfl (by decide) ko_3 (kpa_3_0) (Nat.le_of_ble_eq_true rfl) rfl rfl rfl ka_4
  refine zz_J.pv 29 rfl eq1 rfl ?_
  clear eq1
  exact zz_J.weak (k hR) rfl ⟨rfl, rfl, rfl, rfl, trivial⟩
theorem cb_45_29 {X : Nat → Option zz_C} {h : zz_H} {t : cS} {s : mS} {d : Nat} {Q : zz_O → zz_H → Prop} {x1 : Int32} {x2 : Int32} {x3 : Int64} (hR : kR h t s) (e0 : ¬ (2 * (kI t 3 3)) < 0 ∧ (Int32.toNatClampNeg (2 * (kI t 3 3))) ≤ 1000000 ∧ (kA t 5).1 ≤ 1000000 ∧ ¬ (2 * (kI t 3 3)) = Int32.ofNat (kA t 5).1 ∧ (kN t) + 1 < zz_out) (k : ∀ {h : zz_H}, kR h (jMv (jNI t 1 (Int32.toNatClampNeg (2 * (kI t 3 3))) (kcp 0 (kA t 5).2 (Nat.min (kA t 5).1 (Int32.toNatClampNeg (2 * (kI t 3 3)))))) 5) s → zz_J zp_P zt_tf zt_fd X (d + 9) zm_45 46 [(0, .ref 3), (1, .int x1), (2, .int x2), (3, .long x3)] [] h Q) : zz_J zp_P zt_tf zt_fd X (d + 9) zm_45 29 [(0, .ref 3), (1, .int x1), (2, .int x2), (3, .long x3)] [] h Q := by
  refine zz_J.n 30 rfl rfl rfl ?_
  refine zz_J.n 31 rfl rfl rfl ?_
  refine zz_J.g 34 rfl (hR.gv (v := .ref (kD t 5)) ko_3 (by decide) rfl) rfl ?_
  refine zz_J.c 35 (.int 2) rfl rfl rfl rfl ?_
  refine zz_J.n 36 rfl rfl rfl ?_
  refine zz_J.g 39 rfl (hR.gv (v := .int (kI t 3 3)) ko_3 (by decide) rfl) rfl ?_
  refine zz_J.n 40 rfl rfl rfl ?_
  refine kq_copyi 43 rfl rfl hR (by omega) ka_5 rfl e0 (Nat.le_of_ble_eq_true rfl) (fun {h} hR => ?_)
  obtain ⟨h1, eq1, hR⟩ := hR.pMvi (k := 5) rfl (by decide) ko_3 (kpa_3_1) (Nat.le_of_ble_eq_true rfl) rfl rfl rfl ka_5
  refine zz_J.pv 46 rfl eq1 rfl ?_
  clear eq1
  exact zz_J.weak (k hR) rfl ⟨rfl, rfl, rfl, rfl, trivial⟩
theorem cb_45_46 {X : Nat → Option zz_C} {h : zz_H} {t : cS} {s : mS} {d : Nat} {Q : zz_O → zz_H → Prop} {x1 : Int32} {x2 : Int32} {x3 : Int64} (hR : kR h t s) (e0 : ¬ (2 * (kI t 3 3)) < 0 ∧ (Int32.toNatClampNeg (2 * (kI t 3 3))) ≤ 1000000 ∧ (kB t 6).1 ≤ 1000000 ∧ ¬ (2 * (kI t 3 3)) = Int32.ofNat (kB t 6).1 ∧ (kN t) + 1 < zz_out) (k : ∀ {h : zz_H}, kR h (jMv (jNL t (Int32.toNatClampNeg (2 * (kI t 3 3))) (kcp 0 (kB t 6).2 (Nat.min (kB t 6).1 (Int32.toNatClampNeg (2 * (kI t 3 3)))))) 6) s → zz_J zp_P zt_tf zt_fd X (d + 9) zm_45 63 [(0, .ref 3), (1, .int x1), (2, .int x2), (3, .long x3)] [] h Q) : zz_J zp_P zt_tf zt_fd X (d + 9) zm_45 46 [(0, .ref 3), (1, .int x1), (2, .int x2), (3, .long x3)] [] h Q := by
  refine zz_J.n 47 rfl rfl rfl ?_
  refine zz_J.n 48 rfl rfl rfl ?_
  refine zz_J.g 51 rfl (hR.gv (v := .ref (kD t 6)) ko_3 (by decide) rfl) rfl ?_
  refine zz_J.c 52 (.int 2) rfl rfl rfl rfl ?_
  refine zz_J.n 53 rfl rfl rfl ?_
  refine zz_J.g 56 rfl (hR.gv (v := .int (kI t 3 3)) ko_3 (by decide) rfl) rfl ?_
  refine zz_J.n 57 rfl rfl rfl ?_
  refine kq_copyl 60 rfl rfl hR (by omega) ka_6 rfl e0 (Nat.le_of_ble_eq_true rfl) (fun {h} hR => ?_)
  obtain ⟨h1, eq1, hR⟩ := hR.pMvl (k := 6) rfl (by decide) ko_3 (kpa_3_2) (Nat.le_of_ble_eq_true rfl) rfl rfl rfl ka_6
  refine zz_J.pv 63 rfl eq1 rfl ?_
  clear eq1
  exact zz_J.weak (k hR) rfl ⟨rfl, rfl, rfl, rfl, trivial⟩
theorem cb_45_63 {X : Nat → Option zz_C} {h : zz_H} {t : cS} {s : mS} {d : Nat} {Q : zz_O → zz_H → Prop} {x1 : Int32} {x2 : Int32} {x3 : Int64} (hR : kR h t s) (e0 : ¬ ((kI t 3 3) < 0 ∨ (kA t 4).1 ≤ (Int32.toNatClampNeg (kI t 3 3)))) (e1 : ¬ ((kI t 3 3) < 0 ∨ (kA (jA t 4 (upd (kA t 4).2 (Int32.toNatClampNeg (kI t 3 3)) x1)) 5).1 ≤ (Int32.toNatClampNeg (kI t 3 3)))) (e2 : ¬ ((kI t 3 3) < 0 ∨ (kB t 6).1 ≤ (Int32.toNatClampNeg (kI t 3 3)))) (k : ∀ {h : zz_H}, kR h (jI (jB (jA (jA t 4 (upd (kA t 4).2 (Int32.toNatClampNeg (kI t 3 3)) x1)) 5 (upd (kA (jA t 4 (upd (kA t 4).2 (Int32.toNatClampNeg (kI t 3 3)) x1)) 5).2 (Int32.toNatClampNeg (kI t 3 3)) x2)) 6 (vp_updL (kB t 6).2 (Int32.toNatClampNeg (kI t 3 3)) x3)) 3 3 ((kI t 3 3) + 1)) s → Q (.inl none) h) : zz_J zp_P zt_tf zt_fd X d zm_45 63 [(0, .ref 3), (1, .int x1), (2, .int x2), (3, .long x3)] [] h Q := by
  refine zz_J.n 64 rfl rfl rfl ?_
  refine zz_J.g 67 rfl (hR.gv (v := .ref (kD t 4)) ko_3 (by decide) rfl) rfl ?_
  refine zz_J.n 68 rfl rfl rfl ?_
  refine zz_J.g 71 rfl (hR.gv (v := .int (kI t 3 3)) ko_3 (by decide) rfl) rfl ?_
  refine zz_J.n 72 rfl rfl rfl ?_
  obtain ⟨h1, eq1, hR⟩ := hR.si (x := x1) ka_4 rfl e0
  refine zz_J.si 73 rfl eq1 rfl ?_
  clear eq1
  refine zz_J.n 74 rfl rfl rfl ?_
  refine zz_J.g 77 rfl (hR.gv (v := .ref (kD t 5)) ko_3 (by decide) rfl) rfl ?_
  refine zz_J.n 78 rfl rfl rfl ?_
  refine zz_J.g 81 rfl (hR.gv (v := .int (kI t 3 3)) ko_3 (by decide) rfl) rfl ?_
  refine zz_J.n 82 rfl rfl rfl ?_
  obtain ⟨h1, eq1, hR⟩ := hR.si (x := x2) ka_5 rfl e1
  refine zz_J.si 83 rfl eq1 rfl ?_
  clear eq1
  refine zz_J.n 84 rfl rfl rfl ?_
  refine zz_J.g 87 rfl (hR.gv (v := .ref (kD t 6)) ko_3 (by decide) rfl) rfl ?_
  refine zz_J.n 88 rfl rfl rfl ?_
  refine zz_J.g 91 rfl (hR.gv (v := .int (kI t 3 3)) ko_3 (by decide) rfl) rfl ?_
  refine zz_J.n 92 rfl rfl rfl ?_
  obtain ⟨h1, eq1, hR⟩ := hR.sl (x := x3) ka_6 rfl e2
  refine zz_J.sl 93 rfl eq1 rfl ?_
  clear eq1
  refine zz_J.n 94 rfl rfl rfl ?_
  refine zz_J.n 95 rfl rfl rfl ?_
  refine zz_J.g 98 rfl (hR.gv (v := .int (kI t 3 3)) ko_3 (by decide) rfl) rfl ?_
  refine zz_J.c 99 (.int 1) rfl rfl rfl rfl ?_
  refine zz_J.n 100 rfl rfl rfl ?_
  obtain ⟨h1, eq1, hR⟩ := hR.pI (x := ((kI t 3 3) + 1)) (by decide) ko_3 (kpi_3_3 _) (Nat.le_of_ble_eq_true rfl) rfl
  refine zz_J.pv 103 rfl eq1 rfl ?_
  clear eq1
  refine zz_J.ret rfl rfl rfl ?_
  exact k hR
def cf_45_63 (N : Nat) (X : Nat → Option zz_C) (x1 : Int32) (x2 : Int32) (x3 : Int64) (t : cS) : kO := if ¬ ((kI t 3 3) < 0 ∨ (kA t 4).1 ≤ (Int32.toNatClampNeg (kI t 3 3))) then (if ¬ ((kI t 3 3) < 0 ∨ (kA (jA t 4 (upd (kA t 4).2 (Int32.toNatClampNeg (kI t 3 3)) x1)) 5).1 ≤ (Int32.toNatClampNeg (kI t 3 3))) then (if ¬ ((kI t 3 3) < 0 ∨ (kB t 6).1 ≤ (Int32.toNatClampNeg (kI t 3 3))) then (some ((jI (jB (jA (jA t 4 (upd (kA t 4).2 (Int32.toNatClampNeg (kI t 3 3)) x1)) 5 (upd (kA (jA t 4 (upd (kA t 4).2 (Int32.toNatClampNeg (kI t 3 3)) x1)) 5).2 (Int32.toNatClampNeg (kI t 3 3)) x2)) 6 (vp_updL (kB t 6).2 (Int32.toNatClampNeg (kI t 3 3)) x3)) 3 3 ((kI t 3 3) + 1)), .inl none)) else none) else none) else none
theorem cr_45_63 {X : Nat → Option zz_C} {s : mS} {N : Nat} {d : Nat} (hd : 9 ≤ d) {Q : zz_O → zz_H → Prop} {x1 : Int32} {x2 : Int32} {x3 : Int64} {h : zz_H} {t t' : cS} {o : kY} (hR : kR h t s) (hf : cf_45_63 N X x1 x2 x3 t = some (t', o)) (k : (∀ h', kR h' t' s → kE o Q h')) : zz_J zp_P zt_tf zt_fd X d zm_45 63 [(0, .ref 3), (1, .int x1), (2, .int x2), (3, .long x3)] [] h Q := by
  unfold cf_45_63 at hf
  obtain ⟨e0, hf⟩ := ko_if hf
  obtain ⟨e1, hf⟩ := ko_if hf
  obtain ⟨e2, hf⟩ := ko_if hf
  cases hf
  exact cb_45_63 hR e0 e1 e2 (fun {h} hR => k h hR)
def cf_45_46 (N : Nat) (X : Nat → Option zz_C) (x1 : Int32) (x2 : Int32) (x3 : Int64) (t : cS) : kO := if ¬ (2 * (kI t 3 3)) < 0 ∧ (Int32.toNatClampNeg (2 * (kI t 3 3))) ≤ 1000000 ∧ (kB t 6).1 ≤ 1000000 ∧ ¬ (2 * (kI t 3 3)) = Int32.ofNat (kB t 6).1 ∧ (kN t) + 1 < zz_out then (cf_45_63 N X x1 x2 x3 (jMv (jNL t (Int32.toNatClampNeg (2 * (kI t 3 3))) (kcp 0 (kB t 6).2 (Nat.min (kB t 6).1 (Int32.toNatClampNeg (2 * (kI t 3 3)))))) 6)) else none
theorem cr_45_46 {X : Nat → Option zz_C} {s : mS} {N : Nat} {d : Nat} (hd : 9 ≤ d) {Q : zz_O → zz_H → Prop} {x1 : Int32} {x2 : Int32} {x3 : Int64} {h : zz_H} {t t' : cS} {o : kY} (hR : kR h t s) (hf : cf_45_46 N X x1 x2 x3 t = some (t', o)) (k : (∀ h', kR h' t' s → kE o Q h')) : zz_J zp_P zt_tf zt_fd X d zm_45 46 [(0, .ref 3), (1, .int x1), (2, .int x2), (3, .long x3)] [] h Q := by
  unfold cf_45_46 at hf
  obtain ⟨e0, hf⟩ := ko_if hf
  obtain ⟨d', rfl⟩ : ∃ d', d = d' + 9 := ⟨d - 9, by omega⟩
  exact cb_45_46 hR e0 (fun hR => cr_45_63 hd hR hf k)
def cf_45_29 (N : Nat) (X : Nat → Option zz_C) (x1 : Int32) (x2 : Int32) (x3 : Int64) (t : cS) : kO := if ¬ (2 * (kI t 3 3)) < 0 ∧ (Int32.toNatClampNeg (2 * (kI t 3 3))) ≤ 1000000 ∧ (kA t 5).1 ≤ 1000000 ∧ ¬ (2 * (kI t 3 3)) = Int32.ofNat (kA t 5).1 ∧ (kN t) + 1 < zz_out then (cf_45_46 N X x1 x2 x3 (jMv (jNI t 1 (Int32.toNatClampNeg (2 * (kI t 3 3))) (kcp 0 (kA t 5).2 (Nat.min (kA t 5).1 (Int32.toNatClampNeg (2 * (kI t 3 3)))))) 5)) else none
theorem cr_45_29 {X : Nat → Option zz_C} {s : mS} {N : Nat} {d : Nat} (hd : 9 ≤ d) {Q : zz_O → zz_H → Prop} {x1 : Int32} {x2 : Int32} {x3 : Int64} {h : zz_H} {t t' : cS} {o : kY} (hR : kR h t s) (hf : cf_45_29 N X x1 x2 x3 t = some (t', o)) (k : (∀ h', kR h' t' s → kE o Q h')) : zz_J zp_P zt_tf zt_fd X d zm_45 29 [(0, .ref 3), (1, .int x1), (2, .int x2), (3, .long x3)] [] h Q := by
  unfold cf_45_29 at hf
  obtain ⟨e0, hf⟩ := ko_if hf
  obtain ⟨d', rfl⟩ : ∃ d', d = d' + 9 := ⟨d - 9, by omega⟩
  exact cb_45_29 hR e0 (fun hR => cr_45_46 hd hR hf k)
def cf_45_12 (N : Nat) (X : Nat → Option zz_C) (x1 : Int32) (x2 : Int32) (x3 : Int64) (t : cS) : kO := if ¬ (2 * (kI t 3 3)) < 0 ∧ (Int32.toNatClampNeg (2 * (kI t 3 3))) ≤ 1000000 ∧ (kA t 4).1 ≤ 1000000 ∧ ¬ (2 * (kI t 3 3)) = Int32.ofNat (kA t 4).1 ∧ (kN t) + 1 < zz_out then (cf_45_29 N X x1 x2 x3 (jMv (jNI t 1 (Int32.toNatClampNeg (2 * (kI t 3 3))) (kcp 0 (kA t 4).2 (Nat.min (kA t 4).1 (Int32.toNatClampNeg (2 * (kI t 3 3)))))) 4)) else none
theorem cr_45_12 {X : Nat → Option zz_C} {s : mS} {N : Nat} {d : Nat} (hd : 9 ≤ d) {Q : zz_O → zz_H → Prop} {x1 : Int32} {x2 : Int32} {x3 : Int64} {h : zz_H} {t t' : cS} {o : kY} (hR : kR h t s) (hf : cf_45_12 N X x1 x2 x3 t = some (t', o)) (k : (∀ h', kR h' t' s → kE o Q h')) : zz_J zp_P zt_tf zt_fd X d zm_45 12 [(0, .ref 3), (1, .int x1), (2, .int x2), (3, .long x3)] [] h Q := by
  unfold cf_45_12 at hf
  obtain ⟨e0, hf⟩ := ko_if hf
  obtain ⟨d', rfl⟩ : ∃ d', d = d' + 9 := ⟨d - 9, by omega⟩
  exact cb_45_12 hR e0 (fun hR => cr_45_29 hd hR hf k)
def cf_45_0 (N : Nat) (X : Nat → Option zz_C) (x1 : Int32) (x2 : Int32) (x3 : Int64) (t : cS) : kO := if ¬ (kI t 3 3) = (Int32.ofNat (kA t 4).1) then cf_45_63 N X x1 x2 x3 t else cf_45_12 N X x1 x2 x3 t
theorem cr_45_0 {X : Nat → Option zz_C} {s : mS} {N : Nat} {d : Nat} (hd : 9 ≤ d) {Q : zz_O → zz_H → Prop} {x1 : Int32} {x2 : Int32} {x3 : Int64} {h : zz_H} {t t' : cS} {o : kY} (hR : kR h t s) (hf : cf_45_0 N X x1 x2 x3 t = some (t', o)) (k : (∀ h', kR h' t' s → kE o Q h')) : zz_J zp_P zt_tf zt_fd X d zm_45 0 [(0, .ref 3), (1, .int x1), (2, .int x2), (3, .long x3)] [] h Q := by
  unfold cf_45_0 at hf
  refine cb_45_0 hR  (fun c {h} hR => ?_) (fun c {h} hR => ?_)
  · rw [if_pos c] at hf
    exact cr_45_63 hd hR hf k
  · rw [if_neg c] at hf
    exact cr_45_12 hd hR hf k
/-- put -/
def cf_45 (N : Nat) (X : Nat → Option zz_C) (x1 : Int32) (x2 : Int32) (x3 : Int64) (t : cS) : kO := cf_45_0 N X x1 x2 x3 t
theorem cr_45 {X : Nat → Option zz_C} {s : mS} {N : Nat} {d : Nat} (hd : 9 ≤ d) {Q : zz_O → zz_H → Prop} {x1 : Int32} {x2 : Int32} {x3 : Int64} {h : zz_H} {t t' : cS} {o : kY} (hR : kR h t s) (hf : cf_45 N X x1 x2 x3 t = some (t', o)) (k : ∀ h', kR h' t' s → kE o Q h') : zz_J zp_P zt_tf zt_fd X d zm_45 0 [(0, .ref 3), (1, .int x1), (2, .int x2), (3, .long x3)] [] h Q := by
  unfold cf_45 at hf
  exact zz_J.weak (cr_45_0 hd hR hf k) rfl ⟨rfl, rfl, rfl, rfl, trivial⟩
