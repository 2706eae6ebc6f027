/-! yX6_placeAt (I)I -/
theorem cb_213_0 {X : Nat → Option zz_C} {h : zz_H} {t : cS} {s : mS} {d : Nat} {Q : zz_O → zz_H → Prop} {x0 : Nat} {x1 : Int32} (hR : kR h t s) (k1 : x1 < 0 → (∀ {h : zz_H}, kR h t s → zz_J zp_P zt_tf zt_fd X d zm_213 21 [] [] h Q)) (k2 : ¬ x1 < 0 → (∀ {h : zz_H}, kR h t s → zz_J zp_P zt_tf zt_fd X d zm_213 4 [(0, .ref x0), (1, .int x1)] [] h Q)) : zz_J zp_P zt_tf zt_fd X d zm_213 0 [(0, .ref x0), (1, .int x1)] [] h Q := by
  refine zz_J.n 1 rfl rfl rfl ?_
  refine zz_J.b1 21 4 (A := x1 < 0) rfl rfl (by decide) rfl rfl (fun c => ?_) (fun c => ?_)
  · exact zz_J.weak (k1 c hR) rfl trivial
  · exact zz_J.weak (k2 c hR) rfl ⟨rfl, rfl, trivial⟩
theorem cb_213_4 {X : Nat → Option zz_C} {h : zz_H} {t : cS} {s : mS} {d : Nat} {Q : zz_O → zz_H → Prop} {x0 : Nat} {x1 : Int32} (hR : kR h t s) (e0 : x0 = 12 ∨ x0 = 21) (k1 : (kI t x0 3) ≤ x1 → (∀ {h : zz_H}, kR h t s → zz_J zp_P zt_tf zt_fd X d zm_213 21 [] [] h Q)) (k2 : ¬ (kI t x0 3) ≤ x1 → (∀ {h : zz_H}, kR h t s → zz_J zp_P zt_tf zt_fd X d zm_213 12 [(0, .ref x0), (1, .int x1)] [] h Q)) : zz_J zp_P zt_tf zt_fd X d zm_213 4 [(0, .ref x0), (1, .int x1)] [] h Q := by
  refine zz_J.n 5 rfl rfl rfl ?_
  refine zz_J.n 6 rfl rfl rfl ?_
  refine zz_J.g 9 rfl (hR.gv (v := .int (kI t x0 3)) (ko_P e0) (by decide) rfl) rfl ?_
  refine zz_J.b2 21 12 (A := (kI t x0 3) ≤ x1) rfl rfl (by decide) rfl rfl (fun c => ?_) (fun c => ?_)
  · exact zz_J.weak (k1 c hR) rfl trivial
  · exact zz_J.weak (k2 c hR) rfl ⟨rfl, rfl, trivial⟩
theorem cb_213_12 {X : Nat → Option zz_C} {h : zz_H} {t : cS} {s : mS} {d : Nat} {Q : zz_O → zz_H → Prop} {x0 : Nat} {x1 : Int32} (hR : kR h t s) (e0 : x0 = 12 ∨ x0 = 21) (e1 : ¬ (x1 < 0 ∨ (kA t (x0 + 3)).1 ≤ (Int32.toNatClampNeg x1))) (k : ∀ {h : zz_H}, kR h t s → zz_J zp_P zt_tf zt_fd X d zm_213 22 [] [.int ((kA t (x0 + 3)).2 (Int32.toNatClampNeg x1))] h Q) : zz_J zp_P zt_tf zt_fd X d zm_213 12 [(0, .ref x0), (1, .int x1)] [] h Q := by
  refine zz_J.n 13 rfl rfl rfl ?_
  refine zz_J.g 16 rfl (hR.gv (v := .ref (kD t (x0 + 3))) (ko_P e0) (by decide) rfl) rfl ?_
  refine zz_J.n 17 rfl rfl rfl ?_
  refine zz_J.ai 18 rfl (hR.ai (w := ((kA t (x0 + 3)).2 (Int32.toNatClampNeg x1))) (ka_P3 e0) rfl e1 rfl) rfl ?_
  refine zz_J.n 22 rfl rfl rfl ?_
  exact zz_J.weak (k hR) rfl trivial
theorem cb_213_21 {X : Nat → Option zz_C} {h : zz_H} {t : cS} {s : mS} {d : Nat} {Q : zz_O → zz_H → Prop}  (hR : kR h t s) (k : ∀ {h : zz_H}, kR h t s → zz_J zp_P zt_tf zt_fd X d zm_213 22 [] [.int 0] h Q) : zz_J zp_P zt_tf zt_fd X d zm_213 21 [] [] h Q := by
  refine zz_J.c 22 (.int 0) rfl rfl rfl rfl ?_
  exact zz_J.weak (k hR) rfl trivial
theorem cb_213_22 {X : Nat → Option zz_C} {h : zz_H} {t : cS} {s : mS} {d : Nat} {Q : zz_O → zz_H → Prop} {y0 : Int32} (hR : kR h t s) (k : ∀ {h : zz_H}, kR h t s → Q (.inl (some (.int y0))) h) : zz_J zp_P zt_tf zt_fd X d zm_213 22 [] [.int y0] h Q := by
  refine zz_J.ret rfl rfl rfl ?_
  exact k hR
def cf_213_22 (N : Nat) (X : Nat → Option zz_C) (y0 : Int32) (t : cS) : kO := some (t, .inl (some (.int y0)))
theorem cr_213_22 {X : Nat → Option zz_C} {s : mS} {N : Nat} {d : Nat} (hd : 0 ≤ d) {Q : zz_O → zz_H → Prop} {y0 : Int32} {h : zz_H} {t t' : cS} {o : kY} (hR : kR h t s) (hf : cf_213_22 N X y0 t = some (t', o)) (k : (∀ h', kR h' t' s → kE o Q h')) : zz_J zp_P zt_tf zt_fd X d zm_213 22 [] [.int y0] h Q := by
  unfold cf_213_22 at hf
  cases hf
  exact cb_213_22 hR  (fun {h} hR => k h hR)
def cf_213_21 (N : Nat) (X : Nat → Option zz_C)  (t : cS) : kO := cf_213_22 N X 0 t
theorem cr_213_21 {X : Nat → Option zz_C} {s : mS} {N : Nat} {d : Nat} (hd : 0 ≤ d) {Q : zz_O → zz_H → Prop}  {h : zz_H} {t t' : cS} {o : kY} (hR : kR h t s) (hf : cf_213_21 N X  t = some (t', o)) (k : (∀ h', kR h' t' s → kE o Q h')) : zz_J zp_P zt_tf zt_fd X d zm_213 21 [] [] h Q := by
  unfold cf_213_21 at hf
  exact cb_213_21 hR  (fun hR => cr_213_22 hd hR hf k)
def cf_213_12 (N : Nat) (X : Nat → Option zz_C) (x0 : Nat) (x1 : Int32) (t : cS) : kO := if x0 = 12 ∨ x0 = 21 then (if ¬ (x1 < 0 ∨ (kA t (x0 + 3)).1 ≤ (Int32.toNatClampNeg x1)) then (cf_213_22 N X ((kA t (x0 + 3)).2 (Int32.toNatClampNeg x1)) t) else none) else none
theorem cr_213_12 {X : Nat → Option zz_C} {s : mS} {N : Nat} {d : Nat} (hd : 0 ≤ d) {Q : zz_O → zz_H → Prop} {x0 : Nat} {x1 : Int32} {h : zz_H} {t t' : cS} {o : kY} (hR : kR h t s) (hf : cf_213_12 N X x0 x1 t = some (t', o)) (k : (∀ h', kR h' t' s → kE o Q h')) : zz_J zp_P zt_tf zt_fd X d zm_213 12 [(0, .ref x0), (1, .int x1)] [] h Q := by
  unfold cf_213_12 at hf
  obtain ⟨e0, hf⟩ := ko_if hf
  obtain ⟨e1, hf⟩ := ko_if hf
  exact cb_213_12 hR e0 e1 (fun hR => cr_213_22 hd hR hf k)
def cf_213_4 (N : Nat) (X : Nat → Option zz_C) (x0 : Nat) (x1 : Int32) (t : cS) : kO := if x0 = 12 ∨ x0 = 21 then (if (kI t x0 3) ≤ x1 then cf_213_21 N X  t else cf_213_12 N X x0 x1 t) else none
theorem cr_213_4 {X : Nat → Option zz_C} {s : mS} {N : Nat} {d : Nat} (hd : 0 ≤ d) {Q : zz_O → zz_H → Prop} {x0 : Nat} {x1 : Int32} {h : zz_H} {t t' : cS} {o : kY} (hR : kR h t s) (hf : cf_213_4 N X x0 x1 t = some (t', o)) (k : (∀ h', kR h' t' s → kE o Q h')) : zz_J zp_P zt_tf zt_fd X d zm_213 4 [(0, .ref x0), (1, .int x1)] [] h Q := by
  unfold cf_213_4 at hf
  obtain ⟨e0, hf⟩ := ko_if hf
  refine cb_213_4 hR e0 (fun c {h} hR => ?_) (fun c {h} hR => ?_)
  · rw [if_pos c] at hf
    exact cr_213_21 hd hR hf k
  · rw [if_neg c] at hf
    exact cr_213_12 hd hR hf k
def cf_213_0 (N : Nat) (X : Nat → Option zz_C) (x0 : Nat) (x1 : Int32) (t : cS) : kO := if x1 < 0 then cf_213_21 N X  t else cf_213_4 N X x0 x1 t
theorem cr_213_0 {X : Nat → Option zz_C} {s : mS} {N : Nat} {d : Nat} (hd : 0 ≤ d) {Q : zz_O → zz_H → Prop} {x0 : Nat} {x1 : Int32} {h : zz_H} {t t' : cS} {o : kY} (hR : kR h t s) (hf : cf_213_0 N X x0 x1 t = some (t', o)) (k : (∀ h', kR h' t' s → kE o Q h')) : zz_J zp_P zt_tf zt_fd X d zm_213 0 [(0, .ref x0), (1, .int x1)] [] h Q := by
  unfold cf_213_0 at hf
  refine cb_213_0 hR  (fun c {h} hR => ?_) (fun c {h} hR => ?_)
  · rw [if_pos c] at hf
    exact cr_213_21 hd hR hf k
  · rw [if_neg c] at hf
    exact cr_213_4 hd hR hf k
/-- placeAt -/
def cf_213 (N : Nat) (X : Nat → Option zz_C) (x0 : Nat) (x1 : Int32) (t : cS) : kO := cf_213_0 N X x0 x1 t
theorem cr_213 {X : Nat → Option zz_C} {s : mS} {N : Nat} {d : Nat} (hd : 0 ≤ d) {Q : zz_O → zz_H → Prop} {x0 : Nat} {x1 : Int32} {h : zz_H} {t t' : cS} {o : kY} (hR : kR h t s) (hf : cf_213 N X x0 x1 t = some (t', o)) (k : ∀ h', kR h' t' s → kE o Q h') : zz_J zp_P zt_tf zt_fd X d zm_213 0 [(0, .ref x0), (1, .int x1)] [] h Q := by
  unfold cf_213 at hf
  exact zz_J.weak (cr_213_0 hd hR hf k) rfl ⟨rfl, rfl, trivial⟩
/-! yX3_go (LTallySlate$Program;I)V -/
theorem cb_141_0 {X : Nat → Option zz_C} {h : zz_H} {t : cS} {s : mS} {d : Nat} {Q : zz_O → zz_H → Prop} {x1 : Nat} {x2 : Int32} (hR : kR h t s) (k : ∀ {h : zz_H}, kR h (jI (jI (jI (jI (jI (jP t 49 16 (some x1)) 49 8 0) 49 11 0) 49 15 0) 49 17 0) 49 18 1) s → zz_J zp_P zt_tf zt_fd X d zm_157 0 [(0, .ref 49), (1, .int x2), (2, .int 0), (3, .int 0)] [] h (zz_after 3 Q (fun v h' => zz_J zp_P zt_tf zt_fd X (d + 1) zm_141 37 [(0, .ref 49)] (v.toList ++ []) h' Q))) : zz_J zp_P zt_tf zt_fd X (d + 1) zm_141 0 [(0, .ref 49), (1, .ref x1), (2, .int x2)] [] h Q := by
  refine zz_J.n 1 rfl rfl rfl ?_
  refine zz_J.n 2 rfl rfl rfl ?_
  obtain ⟨h1, eq1, hR⟩ := hR.pP (x := some x1) (by decide) ko_49 (kpi_49_16 _) (Nat.le_of_ble_eq_true rfl) rfl
  refine zz_J.pv 5 rfl eq1 rfl ?_
  clear eq1
  refine zz_J.n 6 rfl rfl rfl ?_
  refine zz_J.c 7 (.int 0) rfl rfl rfl rfl ?_
  obtain ⟨h1, eq1, hR⟩ := hR.pI (x := (0 : Int32)) (by decide) ko_49 (kpi_49_8 _) (Nat.le_of_ble_eq_true rfl) rfl
  refine zz_J.pv 10 rfl eq1 rfl ?_
  clear eq1
  refine zz_J.n 11 rfl rfl rfl ?_
  refine zz_J.c 12 (.int 0) rfl rfl rfl rfl ?_
  obtain ⟨h1, eq1, hR⟩ := hR.pI (x := (0 : Int32)) (by decide) ko_49 (kpi_49_11 _) (Nat.le_of_ble_eq_true rfl) rfl
  refine zz_J.pv 15 rfl eq1 rfl ?_
  clear eq1
  refine zz_J.n 16 rfl rfl rfl ?_
  refine zz_J.c 17 (.int 0) rfl rfl rfl rfl ?_
  obtain ⟨h1, eq1, hR⟩ := hR.pI (x := (0 : Int32)) (by decide) ko_49 (kpi_49_15 _) (Nat.le_of_ble_eq_true rfl) rfl
  refine zz_J.pv 20 rfl eq1 rfl ?_
  clear eq1
  refine zz_J.n 21 rfl rfl rfl ?_
  refine zz_J.c 22 (.int 0) rfl rfl rfl rfl ?_
  obtain ⟨h1, eq1, hR⟩ := hR.pI (x := (0 : Int32)) (by decide) ko_49 (kpi_49_17 _) (Nat.le_of_ble_eq_true rfl) rfl
  refine zz_J.pv 25 rfl eq1 rfl ?_
  clear eq1
  refine zz_J.n 26 rfl rfl rfl ?_
  refine zz_J.c 27 (.int 1) rfl rfl rfl rfl ?_
  obtain ⟨h1, eq1, hR⟩ := hR.pI (x := (1 : Int32)) (by decide) ko_49 (kpi_49_18 _) (Nat.le_of_ble_eq_true rfl) rfl
  refine zz_J.pv 30 rfl eq1 rfl ?_
  clear eq1
  refine zz_J.n 31 rfl rfl rfl ?_
  refine zz_J.n 32 rfl rfl rfl ?_
  refine zz_J.c 33 (.int 0) rfl rfl rfl rfl ?_
  refine zz_J.c 34 (.int 0) rfl rfl rfl rfl ?_
  refine zz_J.cv 37 (as := []) rfl rfl (hR.clO ko_49 (by decide) (by decide)) (by decide) (Nat.le_of_ble_eq_true rfl) (Nat.le_of_ble_eq_true rfl) rfl (Nat.le_of_ble_eq_true rfl) rfl ?_
  refine zz_J.mono (k hR) ?_
  intro o h' hE
  cases o with
  | inl v => exact zz_J.weak hE rfl ⟨rfl, trivial⟩
  | inr q => exact hE
theorem cb_141_37 {X : Nat → Option zz_C} {h : zz_H} {t : cS} {s : mS} {d : Nat} {Q : zz_O → zz_H → Prop}  (hR : kR h t s) (k : ∀ {h : zz_H}, kR h t s → zz_J zp_P zt_tf zt_fd X d zm_141 39 [(0, .ref 49), (3, .int 0)] [] h Q) : zz_J zp_P zt_tf zt_fd X d zm_141 37 [(0, .ref 49)] [] h Q := by
  refine zz_J.c 38 (.int 0) rfl rfl rfl rfl ?_
  refine zz_J.n 39 rfl rfl rfl ?_
  exact zz_J.weak (k hR) rfl ⟨rfl, rfl, trivial⟩
theorem cb_141_39 {X : Nat → Option zz_C} {h : zz_H} {t : cS} {s : mS} {d : Nat} {Q : zz_O → zz_H → Prop} {x3 : Int32} (hR : kR h t s) (k1 : 1000000 ≤ x3 → (∀ {h : zz_H}, kR h t s → zz_J zp_P zt_tf zt_fd X d zm_141 163 [(0, .ref 49)] [] h Q)) (k2 : ¬ 1000000 ≤ x3 → (∀ {h : zz_H}, kR h t s → zz_J zp_P zt_tf zt_fd X d zm_141 45 [(0, .ref 49), (3, .int x3)] [] h Q)) : zz_J zp_P zt_tf zt_fd X d zm_141 39 [(0, .ref 49), (3, .int x3)] [] h Q := by
  refine zz_J.n 40 rfl rfl rfl ?_
  refine zz_J.c 42 (.int 1000000) rfl rfl rfl rfl ?_
  refine zz_J.b2 163 45 (A := 1000000 ≤ x3) rfl rfl (by decide) rfl rfl (fun c => ?_) (fun c => ?_)
  · exact zz_J.weak (k1 c hR) rfl ⟨rfl, trivial⟩
  · exact zz_J.weak (k2 c hR) rfl ⟨rfl, rfl, trivial⟩
theorem cb_141_45 {X : Nat → Option zz_C} {h : zz_H} {t : cS} {s : mS} {d : Nat} {Q : zz_O → zz_H → Prop} {x3 : Int32} (hR : kR h t s) (k1 : (kI t 49 18) = 0 → (∀ {h : zz_H}, kR h t s → zz_J zp_P zt_tf zt_fd X d zm_141 163 [(0, .ref 49)] [] h Q)) (k2 : ¬ (kI t 49 18) = 0 → (∀ {h : zz_H}, kR h t s → zz_J zp_P zt_tf zt_fd X d zm_141 52 [(0, .ref 49), (3, .int x3)] [] h Q)) : zz_J zp_P zt_tf zt_fd X d zm_141 45 [(0, .ref 49), (3, .int x3)] [] h Q := by
  refine zz_J.n 46 rfl rfl rfl ?_
  refine zz_J.g 49 rfl (hR.gv (v := .int (kI t 49 18)) ko_49 (by decide) rfl) rfl ?_
  refine zz_J.b1 163 52 (A := (kI t 49 18) = 0) rfl rfl (by decide) rfl rfl (fun c => ?_) (fun c => ?_)
  · exact zz_J.weak (k1 c hR) rfl ⟨rfl, trivial⟩
  · exact zz_J.weak (k2 c hR) rfl ⟨rfl, rfl, trivial⟩
theorem cb_141_52 {X : Nat → Option zz_C} {h : zz_H} {t : cS} {s : mS} {d : Nat} {Q : zz_O → zz_H → Prop} {x3 : Int32} (hR : kR h t s) {w0 : Nat} (e0 : (kP t 49 16) = some w0) (e1 : w0 = 12 ∨ w0 = 21) (k : ∀ {h : zz_H}, kR h t s → zz_J zp_P zt_tf zt_fd X d zm_211 0 [(0, .ref w0), (1, .int (kI t 49 17))] [] h (zz_after 6 Q (fun v h' => zz_J zp_P zt_tf zt_fd X (d + 1) zm_141 63 [(0, .ref 49), (3, .int x3)] (v.toList ++ []) h' Q))) : zz_J zp_P zt_tf zt_fd X (d + 1) zm_141 52 [(0, .ref 49), (3, .int x3)] [] h Q := by
  refine zz_J.n 53 rfl rfl rfl ?_
  refine zz_J.g 56 rfl (hR.gv (v := .ref w0) ko_49 (by decide) ((congrArg (fun q => some (zz_rv q)) e0).trans rfl)) rfl ?_
  refine zz_J.n 57 rfl rfl rfl ?_
  refine zz_J.g 60 rfl (hR.gv (v := .int (kI t 49 17)) ko_49 (by decide) rfl) rfl ?_
  refine zz_J.cv 63 (as := []) rfl rfl (hR.clO (ko_P e1) (by decide) (by decide)) (by decide) (Nat.le_of_ble_eq_true rfl) (Nat.le_of_ble_eq_true rfl) rfl (Nat.le_of_ble_eq_true rfl) rfl ?_
  refine zz_J.mono (k hR) ?_
  intro o h' hE
  cases o with
  | inl v => exact zz_J.weak hE rfl ⟨rfl, rfl, trivial⟩
  | inr q => exact hE
theorem cb_141_63 {X : Nat → Option zz_C} {h : zz_H} {t : cS} {s : mS} {d : Nat} {Q : zz_O → zz_H → Prop} {x3 : Int32} {y0 : Int32} (hR : kR h t s) {w0 : Nat} (e0 : (kP t 49 16) = some w0) (e1 : w0 = 12 ∨ w0 = 21) (k : ∀ {h : zz_H}, kR h t s → zz_J zp_P zt_tf zt_fd X d zm_212 0 [(0, .ref w0), (1, .int (kI t 49 17))] [] h (zz_after 6 Q (fun v h' => zz_J zp_P zt_tf zt_fd X (d + 1) zm_141 76 [(0, .ref 49), (3, .int x3), (4, .int y0)] (v.toList ++ []) h' Q))) : zz_J zp_P zt_tf zt_fd X (d + 1) zm_141 63 [(0, .ref 49), (3, .int x3)] [.int y0] h Q := by
  refine zz_J.n 65 rfl rfl rfl ?_
  refine zz_J.n 66 rfl rfl rfl ?_
  refine zz_J.g 69 rfl (hR.gv (v := .ref w0) ko_49 (by decide) ((congrArg (fun q => some (zz_rv q)) e0).trans rfl)) rfl ?_
  refine zz_J.n 70 rfl rfl rfl ?_
  refine zz_J.g 73 rfl (hR.gv (v := .int (kI t 49 17)) ko_49 (by decide) rfl) rfl ?_
  refine zz_J.cv 76 (as := []) rfl rfl (hR.clO (ko_P e1) (by decide) (by decide)) (by decide) (Nat.le_of_ble_eq_true rfl) (Nat.le_of_ble_eq_true rfl) rfl (Nat.le_of_ble_eq_true rfl) rfl ?_
  refine zz_J.mono (k hR) ?_
  intro o h' hE
  cases o with
  | inl v => exact zz_J.weak hE rfl ⟨rfl, rfl, rfl, trivial⟩
  | inr q => exact hE
theorem cb_141_76 {X : Nat → Option zz_C} {h : zz_H} {t : cS} {s : mS} {d : Nat} {Q : zz_O → zz_H → Prop} {x3 : Int32} {x4 : Int32} {y0 : Int32} (hR : kR h t s) {w0 : Nat} (e0 : (kP t 49 16) = some w0) (e1 : w0 = 12 ∨ w0 = 21) (k : ∀ {h : zz_H}, kR h t s → zz_J zp_P zt_tf zt_fd X d zm_213 0 [(0, .ref w0), (1, .int (kI t 49 17))] [] h (zz_after 6 Q (fun v h' => zz_J zp_P zt_tf zt_fd X (d + 1) zm_141 89 [(0, .ref 49), (3, .int x3), (4, .int x4), (5, .int y0)] (v.toList ++ []) h' Q))) : zz_J zp_P zt_tf zt_fd X (d + 1) zm_141 76 [(0, .ref 49), (3, .int x3), (4, .int x4)] [.int y0] h Q := by
  refine zz_J.n 78 rfl rfl rfl ?_
  refine zz_J.n 79 rfl rfl rfl ?_
  refine zz_J.g 82 rfl (hR.gv (v := .ref w0) ko_49 (by decide) ((congrArg (fun q => some (zz_rv q)) e0).trans rfl)) rfl ?_
  refine zz_J.n 83 rfl rfl rfl ?_
  refine zz_J.g 86 rfl (hR.gv (v := .int (kI t 49 17)) ko_49 (by decide) rfl) rfl ?_
  refine zz_J.cv 89 (as := []) rfl rfl (hR.clO (ko_P e1) (by decide) (by decide)) (by decide) (Nat.le_of_ble_eq_true rfl) (Nat.le_of_ble_eq_true rfl) rfl (Nat.le_of_ble_eq_true rfl) rfl ?_
  refine zz_J.mono (k hR) ?_
  intro o h' hE
  cases o with
  | inl v => exact zz_J.weak hE rfl ⟨rfl, rfl, rfl, rfl, trivial⟩
  | inr q => exact hE
theorem cb_141_89 {X : Nat → Option zz_C} {h : zz_H} {t : cS} {s : mS} {d : Nat} {Q : zz_O → zz_H → Prop} {x3 : Int32} {x4 : Int32} {x5 : Int32} {y0 : Int32} (hR : kR h t s) (k1 : x4 < 19 → (∀ {h : zz_H}, kR h (jI t 49 17 ((kI t 49 17) + 1)) s → zz_J zp_P zt_tf zt_fd X d zm_141 120 [(0, .ref 49), (3, .int x3), (4, .int x4), (5, .int x5), (6, .int y0)] [] h Q)) (k2 : ¬ x4 < 19 → (∀ {h : zz_H}, kR h (jI t 49 17 ((kI t 49 17) + 1)) s → zz_J zp_P zt_tf zt_fd X d zm_141 108 [(0, .ref 49), (3, .int x3), (4, .int x4), (5, .int x5), (6, .int y0)] [] h Q)) : zz_J zp_P zt_tf zt_fd X d zm_141 89 [(0, .ref 49), (3, .int x3), (4, .int x4), (5, .int x5)] [.int y0] h Q := by
  refine zz_J.n 91 rfl rfl rfl ?_
  refine zz_J.n 92 rfl rfl rfl ?_
  refine zz_J.n 93 rfl rfl rfl ?_
  refine zz_J.g 96 rfl (hR.gv (v := .int (kI t 49 17)) ko_49 (by decide) rfl) rfl ?_
  refine zz_J.c 97 (.int 1) rfl rfl rfl rfl ?_
  refine zz_J.n 98 rfl rfl rfl ?_
  obtain ⟨h1, eq1, hR⟩ := hR.pI (x := ((kI t 49 17) + 1)) (by decide) ko_49 (kpi_49_17 _) (Nat.le_of_ble_eq_true rfl) rfl
  refine zz_J.pv 101 rfl eq1 rfl ?_
  clear eq1
  refine zz_J.n 103 rfl rfl rfl ?_
  refine zz_J.c 105 (.int 19) rfl rfl rfl rfl ?_
  refine zz_J.b2 120 108 (A := x4 < 19) rfl rfl (by decide) rfl rfl (fun c => ?_) (fun c => ?_)
  · exact zz_J.weak (k1 c hR) rfl ⟨rfl, rfl, rfl, rfl, rfl, trivial⟩
  · exact zz_J.weak (k2 c hR) rfl ⟨rfl, rfl, rfl, rfl, rfl, trivial⟩
theorem cb_141_108 {X : Nat → Option zz_C} {h : zz_H} {t : cS} {s : mS} {d : Nat} {Q : zz_O → zz_H → Prop} {x3 : Int32} {x4 : Int32} {x5 : Int32} {x6 : Int32} (hR : kR h t s) (k : ∀ {h : zz_H}, kR h t s → zz_J zp_P zt_tf zt_fd X d zm_146 0 [(0, .ref 49), (1, .int x6)] [] h (zz_after 3 Q (fun v h' => zz_J zp_P zt_tf zt_fd X (d + 1) zm_141 114 [(0, .ref 49), (3, .int x3), (4, .int x4), (5, .int x5), (6, .int x6)] (v.toList ++ []) h' Q))) : zz_J zp_P zt_tf zt_fd X (d + 1) zm_141 108 [(0, .ref 49), (3, .int x3), (4, .int x4), (5, .int x5), (6, .int x6)] [] h Q := by
  refine zz_J.n 109 rfl rfl rfl ?_
  refine zz_J.n 111 rfl rfl rfl ?_
  refine zz_J.cv 114 (as := []) rfl rfl (hR.clO ko_49 (by decide) (by decide)) (by decide) (Nat.le_of_ble_eq_true rfl) (Nat.le_of_ble_eq_true rfl) rfl (Nat.le_of_ble_eq_true rfl) rfl ?_
  refine zz_J.mono (k hR) ?_
  intro o h' hE
  cases o with
  | inl v => exact zz_J.weak hE rfl ⟨rfl, rfl, rfl, rfl, rfl, trivial⟩
  | inr q => exact hE
theorem cb_141_114 {X : Nat → Option zz_C} {h : zz_H} {t : cS} {s : mS} {d : Nat} {Q : zz_O → zz_H → Prop} {x3 : Int32} {x4 : Int32} {x5 : Int32} {x6 : Int32} {y0 : Int32} (hR : kR h t s) (k1 : ¬ y0 = 0 → (∀ {h : zz_H}, kR h t s → zz_J zp_P zt_tf zt_fd X d zm_141 120 [(0, .ref 49), (3, .int x3), (4, .int x4), (5, .int x5), (6, .int x6)] [] h Q)) (k2 : ¬ ¬ y0 = 0 → (∀ {h : zz_H}, kR h t s → zz_J zp_P zt_tf zt_fd X d zm_141 117 [(0, .ref 49)] [] h Q)) : zz_J zp_P zt_tf zt_fd X d zm_141 114 [(0, .ref 49), (3, .int x3), (4, .int x4), (5, .int x5), (6, .int x6)] [.int y0] h Q := by
  refine zz_J.b1 120 117 (A := ¬ y0 = 0) rfl (zz_cond_ne _ _) (by decide) rfl rfl (fun c => ?_) (fun c => ?_)
  · exact zz_J.weak (k1 c hR) rfl ⟨rfl, rfl, rfl, rfl, rfl, trivial⟩
  · exact zz_J.weak (k2 c hR) rfl ⟨rfl, trivial⟩
theorem cb_141_117 {X : Nat → Option zz_C} {h : zz_H} {t : cS} {s : mS} {d : Nat} {Q : zz_O → zz_H → Prop}  (hR : kR h t s) (k : ∀ {h : zz_H}, kR h t s → zz_J zp_P zt_tf zt_fd X d zm_141 163 [(0, .ref 49)] [] h Q) : zz_J zp_P zt_tf zt_fd X d zm_141 117 [(0, .ref 49)] [] h Q := by
  refine zz_J.n 163 rfl rfl rfl ?_
  exact zz_J.weak (k hR) rfl ⟨rfl, trivial⟩
theorem cb_141_120 {X : Nat → Option zz_C} {h : zz_H} {t : cS} {s : mS} {d : Nat} {Q : zz_O → zz_H → Prop} {x3 : Int32} {x4 : Int32} {x5 : Int32} {x6 : Int32} (hR : kR h t s) (k1 : x4 < 13 → (∀ {h : zz_H}, kR h t s → zz_J zp_P zt_tf zt_fd X d zm_141 147 [(0, .ref 49), (3, .int x3), (4, .int x4), (5, .int x5), (6, .int x6)] [] h Q)) (k2 : ¬ x4 < 13 → (∀ {h : zz_H}, kR h t s → zz_J zp_P zt_tf zt_fd X d zm_141 127 [(0, .ref 49), (3, .int x3), (4, .int x4), (5, .int x5), (6, .int x6)] [] h Q)) : zz_J zp_P zt_tf zt_fd X d zm_141 120 [(0, .ref 49), (3, .int x3), (4, .int x4), (5, .int x5), (6, .int x6)] [] h Q := by
  refine zz_J.n 122 rfl rfl rfl ?_
  refine zz_J.c 124 (.int 13) rfl rfl rfl rfl ?_
  refine zz_J.b2 147 127 (A := x4 < 13) rfl rfl (by decide) rfl rfl (fun c => ?_) (fun c => ?_)
  · exact zz_J.weak (k1 c hR) rfl ⟨rfl, rfl, rfl, rfl, rfl, trivial⟩
  · exact zz_J.weak (k2 c hR) rfl ⟨rfl, rfl, rfl, rfl, rfl, trivial⟩
theorem cb_141_127 {X : Nat → Option zz_C} {h : zz_H} {t : cS} {s : mS} {d : Nat} {Q : zz_O → zz_H → Prop} {x3 : Int32} {x4 : Int32} {x5 : Int32} {x6 : Int32} (hR : kR h t s) (k1 : 26 ≤ x4 → (∀ {h : zz_H}, kR h t s → zz_J zp_P zt_tf zt_fd X d zm_141 147 [(0, .ref 49), (3, .int x3), (4, .int x4), (5, .int x5), (6, .int x6)] [] h Q)) (k2 : ¬ 26 ≤ x4 → (∀ {h : zz_H}, kR h t s → zz_J zp_P zt_tf zt_fd X d zm_141 134 [(0, .ref 49), (3, .int x3), (4, .int x4), (5, .int x5), (6, .int x6)] [] h Q)) : zz_J zp_P zt_tf zt_fd X d zm_141 127 [(0, .ref 49), (3, .int x3), (4, .int x4), (5, .int x5), (6, .int x6)] [] h Q := by
  refine zz_J.n 129 rfl rfl rfl ?_
  refine zz_J.c 131 (.int 26) rfl rfl rfl rfl ?_
  refine zz_J.b2 147 134 (A := 26 ≤ x4) rfl rfl (by decide) rfl rfl (fun c => ?_) (fun c => ?_)
  · exact zz_J.weak (k1 c hR) rfl ⟨rfl, rfl, rfl, rfl, rfl, trivial⟩
  · exact zz_J.weak (k2 c hR) rfl ⟨rfl, rfl, rfl, rfl, rfl, trivial⟩
theorem cb_141_134 {X : Nat → Option zz_C} {h : zz_H} {t : cS} {s : mS} {d : Nat} {Q : zz_O → zz_H → Prop} {x3 : Int32} {x4 : Int32} {x5 : Int32} {x6 : Int32} (hR : kR h t s) (k : ∀ {h : zz_H}, kR h t s → zz_J zp_P zt_tf zt_fd X d zm_143 0 [(0, .ref 49), (1, .int x4), (2, .int x5), (3, .int x6)] [] h (zz_after 3 Q (fun v h' => zz_J zp_P zt_tf zt_fd X (d + 1) zm_141 144 [(0, .ref 49), (3, .int x3)] (v.toList ++ []) h' Q))) : zz_J zp_P zt_tf zt_fd X (d + 1) zm_141 134 [(0, .ref 49), (3, .int x3), (4, .int x4), (5, .int x5), (6, .int x6)] [] h Q := by
  refine zz_J.n 135 rfl rfl rfl ?_
  refine zz_J.n 137 rfl rfl rfl ?_
  refine zz_J.n 139 rfl rfl rfl ?_
  refine zz_J.n 141 rfl rfl rfl ?_
  refine zz_J.cv 144 (as := []) rfl rfl (hR.clO ko_49 (by decide) (by decide)) (by decide) (Nat.le_of_ble_eq_true rfl) (Nat.le_of_ble_eq_true rfl) rfl (Nat.le_of_ble_eq_true rfl) rfl ?_
  refine zz_J.mono (k hR) ?_
  intro o h' hE
  cases o with
  | inl v => exact zz_J.weak hE rfl ⟨rfl, rfl, trivial⟩
  | inr q => exact hE
theorem cb_141_144 {X : Nat → Option zz_C} {h : zz_H} {t : cS} {s : mS} {d : Nat} {Q : zz_O → zz_H → Prop} {x3 : Int32} (hR : kR h t s) (k : ∀ {h : zz_H}, kR h t s → zz_J zp_P zt_tf zt_fd X d zm_141 157 [(0, .ref 49), (3, .int x3)] [] h Q) : zz_J zp_P zt_tf zt_fd X d zm_141 144 [(0, .ref 49), (3, .int x3)] [] h Q := by
  refine zz_J.n 157 rfl rfl rfl ?_
  exact zz_J.weak (k hR) rfl ⟨rfl, rfl, trivial⟩
theorem cb_141_147 {X : Nat → Option zz_C} {h : zz_H} {t : cS} {s : mS} {d : Nat} {Q : zz_O → zz_H → Prop} {x3 : Int32} {x4 : Int32} {x5 : Int32} {x6 : Int32} (hR : kR h t s) (k : ∀ {h : zz_H}, kR h t s → zz_J zp_P zt_tf zt_fd X d zm_142 0 [(0, .ref 49), (1, .int x4), (2, .int x5), (3, .int x6)] [] h (zz_after 3 Q (fun v h' => zz_J zp_P zt_tf zt_fd X (d + 1) zm_141 157 [(0, .ref 49), (3, .int x3)] (v.toList ++ []) h' Q))) : zz_J zp_P zt_tf zt_fd X (d + 1) zm_141 147 [(0, .ref 49), (3, .int x3), (4, .int x4), (5, .int x5), (6, .int x6)] [] h Q := by
  refine zz_J.n 148 rfl rfl rfl ?_
  refine zz_J.n 150 rfl rfl rfl ?_
  refine zz_J.n 152 rfl rfl rfl ?_
  refine zz_J.n 154 rfl rfl rfl ?_
  refine zz_J.cv 157 (as := []) rfl rfl (hR.clO ko_49 (by decide) (by decide)) (by decide) (Nat.le_of_ble_eq_true rfl) (Nat.le_of_ble_eq_true rfl) rfl (Nat.le_of_ble_eq_true rfl) rfl ?_
  refine zz_J.mono (k hR) ?_
  intro o h' hE
  cases o with
  | inl v => exact zz_J.weak hE rfl ⟨rfl, rfl, trivial⟩
  | inr q => exact hE
theorem cb_141_157 {X : Nat → Option zz_C} {h : zz_H} {t : cS} {s : mS} {d : Nat} {Q : zz_O → zz_H → Prop} {x3 : Int32} (hR : kR h t s) (k : ∀ {h : zz_H}, kR h t s → zz_J zp_P zt_tf zt_fd X d zm_141 39 [(0, .ref 49), (3, .int (x3 + 1))] [] h Q) : zz_J zp_P zt_tf zt_fd X d zm_141 157 [(0, .ref 49), (3, .int x3)] [] h Q := by
  refine zz_J.n 160 rfl rfl rfl ?_
  refine zz_J.n 39 rfl rfl rfl ?_
  exact zz_J.weak (k hR) rfl ⟨rfl, rfl, trivial⟩
theorem cb_141_163 {X : Nat → Option zz_C} {h : zz_H} {t : cS} {s : mS} {d : Nat} {Q : zz_O → zz_H → Prop}  (hR : kR h t s) (k1 : (kI t 49 18) = 0 → (∀ {h : zz_H}, kR h t s → zz_J zp_P zt_tf zt_fd X d zm_141 181 [] [] h Q)) (k2 : ¬ (kI t 49 18) = 0 → (∀ {h : zz_H}, kR h t s → zz_J zp_P zt_tf zt_fd X d zm_141 170 [(0, .ref 49)] [] h Q)) : zz_J zp_P zt_tf zt_fd X d zm_141 163 [(0, .ref 49)] [] h Q := by
  refine zz_J.n 164 rfl rfl rfl ?_
  refine zz_J.g 167 rfl (hR.gv (v := .int (kI t 49 18)) ko_49 (by decide) rfl) rfl ?_
  refine zz_J.b1 181 170 (A := (kI t 49 18) = 0) rfl rfl (by decide) rfl rfl (fun c => ?_) (fun c => ?_)
  · exact zz_J.weak (k1 c hR) rfl trivial
  · exact zz_J.weak (k2 c hR) rfl ⟨rfl, trivial⟩
theorem cb_141_170 {X : Nat → Option zz_C} {h : zz_H} {t : cS} {s : mS} {d : Nat} {Q : zz_O → zz_H → Prop}  (hR : kR h t s) (k : ∀ {h : zz_H}, kR h t s → zz_J zp_P zt_tf zt_fd X d zm_238 0 [(0, .ref 48), (1, .int 10), (2, .int 0), (3, .int 0)] [] h (zz_after 9 Q (fun v h' => zz_J zp_P zt_tf zt_fd X (d + 1) zm_141 181 [] (v.toList ++ []) h' Q))) : zz_J zp_P zt_tf zt_fd X (d + 1) zm_141 170 [(0, .ref 49)] [] h Q := by
  refine zz_J.n 171 rfl rfl rfl ?_
  refine zz_J.g 174 rfl (hR.gv (v := .ref 48) ko_49 (by decide) rfl) rfl ?_
  refine zz_J.c 176 (.int 10) rfl rfl rfl rfl ?_
  refine zz_J.c 177 (.int 0) rfl rfl rfl rfl ?_
  refine zz_J.c 178 (.int 0) rfl rfl rfl rfl ?_
  refine zz_J.cv 181 (as := []) rfl rfl (hR.clO ko_48 (by decide) (by decide)) (by decide) (Nat.le_of_ble_eq_true rfl) (Nat.le_of_ble_eq_true rfl) rfl (Nat.le_of_ble_eq_true rfl) rfl ?_
  refine zz_J.mono (k hR) ?_
  intro o h' hE
  cases o with
  | inl v => exact zz_J.weak hE rfl trivial
  | inr q => exact hE
theorem cb_141_181 {X : Nat → Option zz_C} {h : zz_H} {t : cS} {s : mS} {d : Nat} {Q : zz_O → zz_H → Prop}  (hR : kR h t s) (k : ∀ {h : zz_H}, kR h t s → Q (.inl none) h) : zz_J zp_P zt_tf zt_fd X d zm_141 181 [] [] h Q := by
  refine zz_J.ret rfl rfl rfl ?_
  exact k hR
def cf_141_181 (N : Nat) (X : Nat → Option zz_C)  (t : cS) : kO := some (t, .inl none)
theorem cr_141_181 {X : Nat → Option zz_C} {s : mS} {N : Nat} {d : Nat} (hd : 26 ≤ d) {Q : zz_O → zz_H → Prop}  {h : zz_H} {t t' : cS} {o : kY} (hR : kR h t s) (hf : cf_141_181 N X  t = some (t', o)) (k : (∀ h', kR h' t' s → kE o Q h')) : zz_J zp_P zt_tf zt_fd X d zm_141 181 [] [] h Q := by
  unfold cf_141_181 at hf
  cases hf
  exact cb_141_181 hR  (fun {h} hR => k h hR)
def cf_141_170 (N : Nat) (X : Nat → Option zz_C)  (t : cS) : kO := ko_call 9 (cf_238 N X 10 0 0 t) (fun g1 v1 => co_v v1 (cf_141_181 N X  g1))
theorem cr_141_170 {X : Nat → Option zz_C} {s : mS} {N : Nat} {d : Nat} (hd : 26 ≤ d) {Q : zz_O → zz_H → Prop}  {h : zz_H} {t t' : cS} {o : kY} (hR : kR h t s) (hf : cf_141_170 N X  t = some (t', o)) (k : (∀ h', kR h' t' s → kE o Q h')) : zz_J zp_P zt_tf zt_fd X d zm_141 170 [(0, .ref 49)] [] h Q := by
  unfold cf_141_170 at hf
  obtain ⟨d', rfl⟩ : ∃ d', d = d' + 1 := ⟨d - 1, by omega⟩
  refine cb_141_170 hR  (fun {h} hR => ?_)
  rcases ko_call_ok hf with ⟨g1, v1, er, hf⟩ | ⟨g1, er, hq⟩
  · obtain ⟨hv, hf2⟩ := co_v_ok hf
    clear hf
    have hf := hf2
    clear hf2
    subst hv
    refine cr_238 (by omega) hR er (fun h hR => ?_)
    exact cr_141_181 hd hR hf k
  · refine cr_238 (by omega) hR er (fun h hR => ?_)
    exact ko_thrown hq hR k
def cf_141_163 (N : Nat) (X : Nat → Option zz_C)  (t : cS) : kO := if (kI t 49 18) = 0 then cf_141_181 N X  t else cf_141_170 N X  t
theorem cr_141_163 {X : Nat → Option zz_C} {s : mS} {N : Nat} {d : Nat} (hd : 26 ≤ d) {Q : zz_O → zz_H → Prop}  {h : zz_H} {t t' : cS} {o : kY} (hR : kR h t s) (hf : cf_141_163 N X  t = some (t', o)) (k : (∀ h', kR h' t' s → kE o Q h')) : zz_J zp_P zt_tf zt_fd X d zm_141 163 [(0, .ref 49)] [] h Q := by
  unfold cf_141_163 at hf
  refine cb_141_163 hR  (fun c {h} hR => ?_) (fun c {h} hR => ?_)
  · rw [if_pos c] at hf
    exact cr_141_181 hd hR hf k
  · rw [if_neg c] at hf
    exact cr_141_170 hd hR hf k
def cf_141_117 (N : Nat) (X : Nat → Option zz_C)  (t : cS) : kO := cf_141_163 N X  t
theorem cr_141_117 {X : Nat → Option zz_C} {s : mS} {N : Nat} {d : Nat} (hd : 26 ≤ d) {Q : zz_O → zz_H → Prop}  {h : zz_H} {t t' : cS} {o : kY} (hR : kR h t s) (hf : cf_141_117 N X  t = some (t', o)) (k : (∀ h', kR h' t' s → kE o Q h')) : zz_J zp_P zt_tf zt_fd X d zm_141 117 [(0, .ref 49)] [] h Q := by
  unfold cf_141_117 at hf
  exact cb_141_117 hR  (fun hR => cr_141_163 hd hR hf k)
def cf_141_157 (N : Nat) (X : Nat → Option zz_C) (rc : Nat → Int32 → cS → kO) (x3 : Int32) (t : cS) : kO := rc 0 (x3 + 1) t
theorem cr_141_157 {X : Nat → Option zz_C} {s : mS} {N : Nat} {d : Nat} (hd : 26 ≤ d) {rc : Nat → Int32 → cS → kO} (hrc0 : ∀ {Q : zz_O → zz_H → Prop} {x3 : Int32} {h : zz_H} {t t' : cS} {o : kY}, kR h t s → rc 0 x3 t = some (t', o) → (∀ h', kR h' t' s → kE o Q h') → zz_J zp_P zt_tf zt_fd X d zm_141 39 [(0, .ref 49), (3, .int x3)] [] h Q) {Q : zz_O → zz_H → Prop} {x3 : Int32} {h : zz_H} {t t' : cS} {o : kY} (hR : kR h t s) (hf : cf_141_157 N X rc x3 t = some (t', o)) (k : (∀ h', kR h' t' s → kE o Q h')) : zz_J zp_P zt_tf zt_fd X d zm_141 157 [(0, .ref 49), (3, .int x3)] [] h Q := by
  unfold cf_141_157 at hf
  exact cb_141_157 hR  (fun hR => hrc0 hR hf k)
def cf_141_147 (N : Nat) (X : Nat → Option zz_C) (rc : Nat → Int32 → cS → kO) (x3 : Int32) (x4 : Int32) (x5 : Int32) (x6 : Int32) (t : cS) : kO := ko_call 3 (cf_142 N X x4 x5 x6 t) (fun g1 v1 => co_v v1 (cf_141_157 N X rc x3 g1))
theorem cr_141_147 {X : Nat → Option zz_C} {s : mS} {N : Nat} {d : Nat} (hd : 26 ≤ d) {rc : Nat → Int32 → cS → kO} (hrc0 : ∀ {Q : zz_O → zz_H → Prop} {x3 : Int32} {h : zz_H} {t t' : cS} {o : kY}, kR h t s → rc 0 x3 t = some (t', o) → (∀ h', kR h' t' s → kE o Q h') → zz_J zp_P zt_tf zt_fd X d zm_141 39 [(0, .ref 49), (3, .int x3)] [] h Q) {Q : zz_O → zz_H → Prop} {x3 : Int32} {x4 : Int32} {x5 : Int32} {x6 : Int32} {h : zz_H} {t t' : cS} {o : kY} (hR : kR h t s) (hf : cf_141_147 N X rc x3 x4 x5 x6 t = some (t', o)) (k : (∀ h', kR h' t' s → kE o Q h')) : zz_J zp_P zt_tf zt_fd X d zm_141 147 [(0, .ref 49), (3, .int x3), (4, .int x4), (5, .int x5), (6, .int x6)] [] h Q := by
  unfold cf_141_147 at hf
  obtain ⟨d', rfl⟩ : ∃ d', d = d' + 1 := ⟨d - 1, by omega⟩
  refine cb_141_147 hR  (fun {h} hR => ?_)
  rcases ko_call_ok hf with ⟨g1, v1, er, hf⟩ | ⟨g1, er, hq⟩
  · obtain ⟨hv, hf2⟩ := co_v_ok hf
    clear hf
    have hf := hf2
    clear hf2
    subst hv
    refine cr_142 (by omega) hR er (fun h hR => ?_)
    exact cr_141_157 hd hrc0 hR hf k
  · refine cr_142 (by omega) hR er (fun h hR => ?_)
    exact ko_thrown hq hR k
def cf_141_144 (N : Nat) (X : Nat → Option zz_C) (rc : Nat → Int32 → cS → kO) (x3 : Int32) (t : cS) : kO := cf_141_157 N X rc x3 t
theorem cr_141_144 {X : Nat → Option zz_C} {s : mS} {N : Nat} {d : Nat} (hd : 26 ≤ d) {rc : Nat → Int32 → cS → kO} (hrc0 : ∀ {Q : zz_O → zz_H → Prop} {x3 : Int32} {h : zz_H} {t t' : cS} {o : kY}, kR h t s → rc 0 x3 t = some (t', o) → (∀ h', kR h' t' s → kE o Q h') → zz_J zp_P zt_tf zt_fd X d zm_141 39 [(0, .ref 49), (3, .int x3)] [] h Q) {Q : zz_O → zz_H → Prop} {x3 : Int32} {h : zz_H} {t t' : cS} {o : kY} (hR : kR h t s) (hf : cf_141_144 N X rc x3 t = some (t', o)) (k : (∀ h', kR h' t' s → kE o Q h')) : zz_J zp_P zt_tf zt_fd X d zm_141 144 [(0, .ref 49), (3, .int x3)] [] h Q := by
  unfold cf_141_144 at hf
  exact cb_141_144 hR  (fun hR => cr_141_157 hd hrc0 hR hf k)
def cf_141_134 (N : Nat) (X : Nat → Option zz_C) (rc : Nat → Int32 → cS → kO) (x3 : Int32) (x4 : Int32) (x5 : Int32) (x6 : Int32) (t : cS) : kO := ko_call 3 (cf_143 N X x4 x5 x6 t) (fun g1 v1 => co_v v1 (cf_141_144 N X rc x3 g1))
theorem cr_141_134 {X : Nat → Option zz_C} {s : mS} {N : Nat} {d : Nat} (hd : 26 ≤ d) {rc : Nat → Int32 → cS → kO} (hrc0 : ∀ {Q : zz_O → zz_H → Prop} {x3 : Int32} {h : zz_H} {t t' : cS} {o : kY}, kR h t s → rc 0 x3 t = some (t', o) → (∀ h', kR h' t' s → kE o Q h') → zz_J zp_P zt_tf zt_fd X d zm_141 39 [(0, .ref 49), (3, .int x3)] [] h Q) {Q : zz_O → zz_H → Prop} {x3 : Int32} {x4 : Int32} {x5 : Int32} {x6 : Int32} {h : zz_H} {t t' : cS} {o : kY} (hR : kR h t s) (hf : cf_141_134 N X rc x3 x4 x5 x6 t = some (t', o)) (k : (∀ h', kR h' t' s → kE o Q h')) : zz_J zp_P zt_tf zt_fd X d zm_141 134 [(0, .ref 49), (3, .int x3), (4, .int x4), (5, .int x5), (6, .int x6)] [] h Q := by
  unfold cf_141_134 at hf
  obtain ⟨d', rfl⟩ : ∃ d', d = d' + 1 := ⟨d - 1, by omega⟩
  refine cb_141_134 hR  (fun {h} hR => ?_)
  rcases ko_call_ok hf with ⟨g1, v1, er, hf⟩ | ⟨g1, er, hq⟩
  · obtain ⟨hv, hf2⟩ := co_v_ok hf
    clear hf
    have hf := hf2
    clear hf2
    subst hv
    refine cr_143 (by omega) hR er (fun h hR => ?_)
    exact cr_141_144 hd hrc0 hR hf k
  · refine cr_143 (by omega) hR er (fun h hR => ?_)
    exact ko_thrown hq hR k
def cf_141_127 (N : Nat) (X : Nat → Option zz_C) (rc : Nat → Int32 → cS → kO) (x3 : Int32) (x4 : Int32) (x5 : Int32) (x6 : Int32) (t : cS) : kO := if 26 ≤ x4 then cf_141_147 N X rc x3 x4 x5 x6 t else cf_141_134 N X rc x3 x4 x5 x6 t
theorem cr_141_127 {X : Nat → Option zz_C} {s : mS} {N : Nat} {d : Nat} (hd : 26 ≤ d) {rc : Nat → Int32 → cS → kO} (hrc0 : ∀ {Q : zz_O → zz_H → Prop} {x3 : Int32} {h : zz_H} {t t' : cS} {o : kY}, kR h t s → rc 0 x3 t = some (t', o) → (∀ h', kR h' t' s → kE o Q h') → zz_J zp_P zt_tf zt_fd X d zm_141 39 [(0, .ref 49), (3, .int x3)] [] h Q) {Q : zz_O → zz_H → Prop} {x3 : Int32} {x4 : Int32} {x5 : Int32} {x6 : Int32} {h : zz_H} {t t' : cS} {o : kY} (hR : kR h t s) (hf : cf_141_127 N X rc x3 x4 x5 x6 t = some (t', o)) (k : (∀ h', kR h' t' s → kE o Q h')) : zz_J zp_P zt_tf zt_fd X d zm_141 127 [(0, .ref 49), (3, .int x3), (4, .int x4), (5, .int x5), (6, .int x6)] [] h Q := by
  unfold cf_141_127 at hf
  refine cb_141_127 hR  (fun c {h} hR => ?_) (fun c {h} hR => ?_)
  · rw [if_pos c] at hf
    exact cr_141_147 hd hrc0 hR hf k
  · rw [if_neg c] at hf
    exact cr_141_134 hd hrc0 hR hf k
def cf_141_120 (N : Nat) (X : Nat → Option zz_C) (rc : Nat → Int32 → cS → kO) (x3 : Int32) (x4 : Int32) (x5 : Int32) (x6 : Int32) (t : cS) : kO := if x4 < 13 then cf_141_147 N X rc x3 x4 x5 x6 t else cf_141_127 N X rc x3 x4 x5 x6 t
theorem cr_141_120 {X : Nat → Option zz_C} {s : mS} {N : Nat} {d : Nat} (hd : 26 ≤ d) {rc : Nat → Int32 → cS → kO} (hrc0 : ∀ {Q : zz_O → zz_H → Prop} {x3 : Int32} {h : zz_H} {t t' : cS} {o : kY}, kR h t s → rc 0 x3 t = some (t', o) → (∀ h', kR h' t' s → kE o Q h') → zz_J zp_P zt_tf zt_fd X d zm_141 39 [(0, .ref 49), (3, .int x3)] [] h Q) {Q : zz_O → zz_H → Prop} {x3 : Int32} {x4 : Int32} {x5 : Int32} {x6 : Int32} {h : zz_H} {t t' : cS} {o : kY} (hR : kR h t s) (hf : cf_141_120 N X rc x3 x4 x5 x6 t = some (t', o)) (k : (∀ h', kR h' t' s → kE o Q h')) : zz_J zp_P zt_tf zt_fd X d zm_141 120 [(0, .ref 49), (3, .int x3), (4, .int x4), (5, .int x5), (6, .int x6)] [] h Q := by
  unfold cf_141_120 at hf
  refine cb_141_120 hR  (fun c {h} hR => ?_) (fun c {h} hR => ?_)
  · rw [if_pos c] at hf
    exact cr_141_147 hd hrc0 hR hf k
  · rw [if_neg c] at hf
    exact cr_141_127 hd hrc0 hR hf k
def cf_141_114 (N : Nat) (X : Nat → Option zz_C) (rc : Nat → Int32 → cS → kO) (x3 : Int32) (x4 : Int32) (x5 : Int32) (x6 : Int32) (y0 : Int32) (t : cS) : kO := if ¬ y0 = 0 then cf_141_120 N X rc x3 x4 x5 x6 t else cf_141_117 N X  t
theorem cr_141_114 {X : Nat → Option zz_C} {s : mS} {N : Nat} {d : Nat} (hd : 26 ≤ d) {rc : Nat → Int32 → cS → kO} (hrc0 : ∀ {Q : zz_O → zz_H → Prop} {x3 : Int32} {h : zz_H} {t t' : cS} {o : kY}, kR h t s → rc 0 x3 t = some (t', o) → (∀ h', kR h' t' s → kE o Q h') → zz_J zp_P zt_tf zt_fd X d zm_141 39 [(0, .ref 49), (3, .int x3)] [] h Q) {Q : zz_O → zz_H → Prop} {x3 : Int32} {x4 : Int32} {x5 : Int32} {x6 : Int32} {y0 : Int32} {h : zz_H} {t t' : cS} {o : kY} (hR : kR h t s) (hf : cf_141_114 N X rc x3 x4 x5 x6 y0 t = some (t', o)) (k : (∀ h', kR h' t' s → kE o Q h')) : zz_J zp_P zt_tf zt_fd X d zm_141 114 [(0, .ref 49), (3, .int x3), (4, .int x4), (5, .int x5), (6, .int x6)] [.int y0] h Q := by
  unfold cf_141_114 at hf
  refine cb_141_114 hR  (fun c {h} hR => ?_) (fun c {h} hR => ?_)
  · rw [if_pos c] at hf
    exact cr_141_120 hd hrc0 hR hf k
  · rw [if_neg c] at hf
    exact cr_141_117 hd hR hf k
def cf_141_108 (N : Nat) (X : Nat → Option zz_C) (rc : Nat → Int32 → cS → kO) (x3 : Int32) (x4 : Int32) (x5 : Int32) (x6 : Int32) (t : cS) : kO := ko_call 3 (cf_146 N X x6 t) (fun g1 v1 => co_i v1 (fun y => cf_141_114 N X rc x3 x4 x5 x6 y g1))
theorem cr_141_108 {X : Nat → Option zz_C} {s : mS} {N : Nat} {d : Nat} (hd : 26 ≤ d) {rc : Nat → Int32 → cS → kO} (hrc0 : ∀ {Q : zz_O → zz_H → Prop} {x3 : Int32} {h : zz_H} {t t' : cS} {o : kY}, kR h t s → rc 0 x3 t = some (t', o) → (∀ h', kR h' t' s → kE o Q h') → zz_J zp_P zt_tf zt_fd X d zm_141 39 [(0, .ref 49), (3, .int x3)] [] h Q) {Q : zz_O → zz_H → Prop} {x3 : Int32} {x4 : Int32} {x5 : Int32} {x6 : Int32} {h : zz_H} {t t' : cS} {o : kY} (hR : kR h t s) (hf : cf_141_108 N X rc x3 x4 x5 x6 t = some (t', o)) (k : (∀ h', kR h' t' s → kE o Q h')) : zz_J zp_P zt_tf zt_fd X d zm_141 108 [(0, .ref 49), (3, .int x3), (4, .int x4), (5, .int x5), (6, .int x6)] [] h Q := by
  unfold cf_141_108 at hf
  obtain ⟨d', rfl⟩ : ∃ d', d = d' + 1 := ⟨d - 1, by omega⟩
  refine cb_141_108 hR  (fun {h} hR => ?_)
  rcases ko_call_ok hf with ⟨g1, v1, er, hf⟩ | ⟨g1, er, hq⟩
  · obtain ⟨y, hv, hf2⟩ := co_i_ok hf
    clear hf
    have hf := hf2
    clear hf2
    subst hv
    refine cr_146 (by omega) hR er (fun h hR => ?_)
    exact cr_141_114 hd hrc0 hR hf k
  · refine cr_146 (by omega) hR er (fun h hR => ?_)
    exact ko_thrown hq hR k
def cf_141_89 (N : Nat) (X : Nat → Option zz_C) (rc : Nat → Int32 → cS → kO) (x3 : Int32) (x4 : Int32) (x5 : Int32) (y0 : Int32) (t : cS) : kO := if x4 < 19 then cf_141_120 N X rc x3 x4 x5 y0 (jI t 49 17 ((kI t 49 17) + 1)) else cf_141_108 N X rc x3 x4 x5 y0 (jI t 49 17 ((kI t 49 17) + 1))
theorem cr_141_89 {X : Nat → Option zz_C} {s : mS} {N : Nat} {d : Nat} (hd : 26 ≤ d) {rc : Nat → Int32 → cS → kO} (hrc0 : ∀ {Q : zz_O → zz_H → Prop} {x3 : Int32} {h : zz_H} {t t' : cS} {o : kY}, kR h t s → rc 0 x3 t = some (t', o) → (∀ h', kR h' t' s → kE o Q h') → zz_J zp_P zt_tf zt_fd X d zm_141 39 [(0, .ref 49), (3, .int x3)] [] h Q) {Q : zz_O → zz_H → Prop} {x3 : Int32} {x4 : Int32} {x5 : Int32} {y0 : Int32} {h : zz_H} {t t' : cS} {o : kY} (hR : kR h t s) (hf : cf_141_89 N X rc x3 x4 x5 y0 t = some (t', o)) (k : (∀ h', kR h' t' s → kE o Q h')) : zz_J zp_P zt_tf zt_fd X d zm_141 89 [(0, .ref 49), (3, .int x3), (4, .int x4), (5, .int x5)] [.int y0] h Q := by
  unfold cf_141_89 at hf
  refine cb_141_89 hR  (fun c {h} hR => ?_) (fun c {h} hR => ?_)
  · rw [if_pos c] at hf
    exact cr_141_120 hd hrc0 hR hf k
  · rw [if_neg c] at hf
    exact cr_141_108 hd hrc0 hR hf k
def cf_141_76 (N : Nat) (X : Nat → Option zz_C) (rc : Nat → Int32 → cS → kO) (x3 : Int32) (x4 : Int32) (y0 : Int32) (t : cS) : kO := co_b ((kP t 49 16)) (fun w0 => if w0 = 12 ∨ w0 = 21 then (ko_call 6 (cf_213 N X w0 (kI t 49 17) t) (fun g1 v1 => co_i v1 (fun y => cf_141_89 N X rc x3 x4 y0 y g1))) else none)
theorem cr_141_76 {X : Nat → Option zz_C} {s : mS} {N : Nat} {d : Nat} (hd : 26 ≤ d) {rc : Nat → Int32 → cS → kO} (hrc0 : ∀ {Q : zz_O → zz_H → Prop} {x3 : Int32} {h : zz_H} {t t' : cS} {o : kY}, kR h t s → rc 0 x3 t = some (t', o) → (∀ h', kR h' t' s → kE o Q h') → zz_J zp_P zt_tf zt_fd X d zm_141 39 [(0, .ref 49), (3, .int x3)] [] h Q) {Q : zz_O → zz_H → Prop} {x3 : Int32} {x4 : Int32} {y0 : Int32} {h : zz_H} {t t' : cS} {o : kY} (hR : kR h t s) (hf : cf_141_76 N X rc x3 x4 y0 t = some (t', o)) (k : (∀ h', kR h' t' s → kE o Q h')) : zz_J zp_P zt_tf zt_fd X d zm_141 76 [(0, .ref 49), (3, .int x3), (4, .int x4)] [.int y0] h Q := by
  unfold cf_141_76 at hf
  obtain ⟨w0, e0, hf⟩ := co_b_ok hf
  obtain ⟨e1, hf⟩ := ko_if hf
  obtain ⟨d', rfl⟩ : ∃ d', d = d' + 1 := ⟨d - 1, by omega⟩
  refine cb_141_76 hR e0 e1 (fun {h} hR => ?_)
  rcases ko_call_ok hf with ⟨g1, v1, er, hf⟩ | ⟨g1, er, hq⟩
  · obtain ⟨y, hv, hf2⟩ := co_i_ok hf
    clear hf
    have hf := hf2
    clear hf2
    subst hv
    refine cr_213 (by omega) hR er (fun h hR => ?_)
    exact cr_141_89 hd hrc0 hR hf k
  · refine cr_213 (by omega) hR er (fun h hR => ?_)
    exact ko_thrown hq hR k
def cf_141_63 (N : Nat) (X : Nat → Option zz_C) (rc : Nat → Int32 → cS → kO) (x3 : Int32) (y0 : Int32) (t : cS) : kO := co_b ((kP t 49 16)) (fun w0 => if w0 = 12 ∨ w0 = 21 then (ko_call 6 (cf_212 N X w0 (kI t 49 17) t) (fun g1 v1 => co_i v1 (fun y => cf_141_76 N X rc x3 y0 y g1))) else none)
theorem cr_141_63 {X : Nat → Option zz_C} {s : mS} {N : Nat} {d : Nat} (hd : 26 ≤ d) {rc : Nat → Int32 → cS → kO} (hrc0 : ∀ {Q : zz_O → zz_H → Prop} {x3 : Int32} {h : zz_H} {t t' : cS} {o : kY}, kR h t s → rc 0 x3 t = some (t', o) → (∀ h', kR h' t' s → kE o Q h') → zz_J zp_P zt_tf zt_fd X d zm_141 39 [(0, .ref 49), (3, .int x3)] [] h Q) {Q : zz_O → zz_H → Prop} {x3 : Int32} {y0 : Int32} {h : zz_H} {t t' : cS} {o : kY} (hR : kR h t s) (hf : cf_141_63 N X rc x3 y0 t = some (t', o)) (k : (∀ h', kR h' t' s → kE o Q h')) : zz_J zp_P zt_tf zt_fd X d zm_141 63 [(0, .ref 49), (3, .int x3)] [.int y0] h Q := by
  unfold cf_141_63 at hf
  obtain ⟨w0, e0, hf⟩ := co_b_ok hf
  obtain ⟨e1, hf⟩ := ko_if hf
  obtain ⟨d', rfl⟩ : ∃ d', d = d' + 1 := ⟨d - 1, by omega⟩
  refine cb_141_63 hR e0 e1 (fun {h} hR => ?_)
  rcases ko_call_ok hf with ⟨g1, v1, er, hf⟩ | ⟨g1, er, hq⟩
  · obtain ⟨y, hv, hf2⟩ := co_i_ok hf
    clear hf
    have hf := hf2
    clear hf2
    subst hv
    refine cr_212 (by omega) hR er (fun h hR => ?_)
    exact cr_141_76 hd hrc0 hR hf k
  · refine cr_212 (by omega) hR er (fun h hR => ?_)
    exact ko_thrown hq hR k
def cf_141_52 (N : Nat) (X : Nat → Option zz_C) (rc : Nat → Int32 → cS → kO) (x3 : Int32) (t : cS) : kO := co_b ((kP t 49 16)) (fun w0 => if w0 = 12 ∨ w0 = 21 then (ko_call 6 (cf_211 N X w0 (kI t 49 17) t) (fun g1 v1 => co_i v1 (fun y => cf_141_63 N X rc x3 y g1))) else none)
theorem cr_141_52 {X : Nat → Option zz_C} {s : mS} {N : Nat} {d : Nat} (hd : 26 ≤ d) {rc : Nat → Int32 → cS → kO} (hrc0 : ∀ {Q : zz_O → zz_H → Prop} {x3 : Int32} {h : zz_H} {t t' : cS} {o : kY}, kR h t s → rc 0 x3 t = some (t', o) → (∀ h', kR h' t' s → kE o Q h') → zz_J zp_P zt_tf zt_fd X d zm_141 39 [(0, .ref 49), (3, .int x3)] [] h Q) {Q : zz_O → zz_H → Prop} {x3 : Int32} {h : zz_H} {t t' : cS} {o : kY} (hR : kR h t s) (hf : cf_141_52 N X rc x3 t = some (t', o)) (k : (∀ h', kR h' t' s → kE o Q h')) : zz_J zp_P zt_tf zt_fd X d zm_141 52 [(0, .ref 49), (3, .int x3)] [] h Q := by
  unfold cf_141_52 at hf
  obtain ⟨w0, e0, hf⟩ := co_b_ok hf
  obtain ⟨e1, hf⟩ := ko_if hf
  obtain ⟨d', rfl⟩ : ∃ d', d = d' + 1 := ⟨d - 1, by omega⟩
  refine cb_141_52 hR e0 e1 (fun {h} hR => ?_)
  rcases ko_call_ok hf with ⟨g1, v1, er, hf⟩ | ⟨g1, er, hq⟩
  · obtain ⟨y, hv, hf2⟩ := co_i_ok hf
    clear hf
    have hf := hf2
    clear hf2
    subst hv
    refine cr_211 (by omega) hR er (fun h hR => ?_)
    exact cr_141_63 hd hrc0 hR hf k
  · refine cr_211 (by omega) hR er (fun h hR => ?_)
    exact ko_thrown hq hR k
def cf_141_45 (N : Nat) (X : Nat → Option zz_C) (rc : Nat → Int32 → cS → kO) (x3 : Int32) (t : cS) : kO := if (kI t 49 18) = 0 then cf_141_163 N X  t else cf_141_52 N X rc x3 t
theorem cr_141_45 {X : Nat → Option zz_C} {s : mS} {N : Nat} {d : Nat} (hd : 26 ≤ d) {rc : Nat → Int32 → cS → kO} (hrc0 : ∀ {Q : zz_O → zz_H → Prop} {x3 : Int32} {h : zz_H} {t t' : cS} {o : kY}, kR h t s → rc 0 x3 t = some (t', o) → (∀ h', kR h' t' s → kE o Q h') → zz_J zp_P zt_tf zt_fd X d zm_141 39 [(0, .ref 49), (3, .int x3)] [] h Q) {Q : zz_O → zz_H → Prop} {x3 : Int32} {h : zz_H} {t t' : cS} {o : kY} (hR : kR h t s) (hf : cf_141_45 N X rc x3 t = some (t', o)) (k : (∀ h', kR h' t' s → kE o Q h')) : zz_J zp_P zt_tf zt_fd X d zm_141 45 [(0, .ref 49), (3, .int x3)] [] h Q := by
  unfold cf_141_45 at hf
  refine cb_141_45 hR  (fun c {h} hR => ?_) (fun c {h} hR => ?_)
  · rw [if_pos c] at hf
    exact cr_141_163 hd hR hf k
  · rw [if_neg c] at hf
    exact cr_141_52 hd hrc0 hR hf k
def cf_141_39 (N : Nat) (X : Nat → Option zz_C) (rc : Nat → Int32 → cS → kO) (x3 : Int32) (t : cS) : kO := if 1000000 ≤ x3 then cf_141_163 N X  t else cf_141_45 N X rc x3 t
theorem cr_141_39 {X : Nat → Option zz_C} {s : mS} {N : Nat} {d : Nat} (hd : 26 ≤ d) {rc : Nat → Int32 → cS → kO} (hrc0 : ∀ {Q : zz_O → zz_H → Prop} {x3 : Int32} {h : zz_H} {t t' : cS} {o : kY}, kR h t s → rc 0 x3 t = some (t', o) → (∀ h', kR h' t' s → kE o Q h') → zz_J zp_P zt_tf zt_fd X d zm_141 39 [(0, .ref 49), (3, .int x3)] [] h Q) {Q : zz_O → zz_H → Prop} {x3 : Int32} {h : zz_H} {t t' : cS} {o : kY} (hR : kR h t s) (hf : cf_141_39 N X rc x3 t = some (t', o)) (k : (∀ h', kR h' t' s → kE o Q h')) : zz_J zp_P zt_tf zt_fd X d zm_141 39 [(0, .ref 49), (3, .int x3)] [] h Q := by
  unfold cf_141_39 at hf
  refine cb_141_39 hR  (fun c {h} hR => ?_) (fun c {h} hR => ?_)
  · rw [if_pos c] at hf
    exact cr_141_163 hd hR hf k
  · rw [if_neg c] at hf
    exact cr_141_45 hd hrc0 hR hf k
def cf_141_L4 (N : Nat) (X : Nat → Option zz_C) : Nat → Nat → Int32 → cS → kO
  | 0, _, _, _ => none
  | n + 1, l, x3, t => if l = 0 then cf_141_39 N X (cf_141_L4 N X n) x3 t else none
theorem cr_141_L4 {X : Nat → Option zz_C} {s : mS} {N : Nat} {d : Nat} (hd : 26 ≤ d) : ∀ n : Nat, (∀ {Q : zz_O → zz_H → Prop} {x3 : Int32} {h : zz_H} {t t' : cS} {o : kY}, kR h t s → cf_141_L4 N X n 0 x3 t = some (t', o) → (∀ h', kR h' t' s → kE o Q h') → zz_J zp_P zt_tf zt_fd X d zm_141 39 [(0, .ref 49), (3, .int x3)] [] h Q) := by
  intro n
  induction n with
  | zero => exact (fun _ hf _ => by cases hf)
  | succ n ih =>
    have h0 := @ih
    intro Q _ h t t' o hR hf k
    unfold cf_141_L4 at hf
    rw [if_pos rfl] at hf
    exact cr_141_39 hd h0 hR hf k
def cf_141_37 (N : Nat) (X : Nat → Option zz_C)  (t : cS) : kO := cf_141_L4 N X N 0 0 t
theorem cr_141_37 {X : Nat → Option zz_C} {s : mS} {N : Nat} {d : Nat} (hd : 26 ≤ d) {Q : zz_O → zz_H → Prop}  {h : zz_H} {t t' : cS} {o : kY} (hR : kR h t s) (hf : cf_141_37 N X  t = some (t', o)) (k : (∀ h', kR h' t' s → kE o Q h')) : zz_J zp_P zt_tf zt_fd X d zm_141 37 [(0, .ref 49)] [] h Q := by
  unfold cf_141_37 at hf
  exact cb_141_37 hR  (fun hR => cr_141_L4 hd N hR hf k)
def cf_141_0 (N : Nat) (X : Nat → Option zz_C) (x1 : Nat) (x2 : Int32) (t : cS) : kO := ko_call 3 (cf_157 N X x2 0 0 (jI (jI (jI (jI (jI (jP t 49 16 (some x1)) 49 8 0) 49 11 0) 49 15 0) 49 17 0) 49 18 1)) (fun g1 v1 => co_v v1 (cf_141_37 N X  g1))
theorem cr_141_0 {X : Nat → Option zz_C} {s : mS} {N : Nat} {d : Nat} (hd : 26 ≤ d) {Q : zz_O → zz_H → Prop} {x1 : Nat} {x2 : Int32} {h : zz_H} {t t' : cS} {o : kY} (hR : kR h t s) (hf : cf_141_0 N X x1 x2 t = some (t', o)) (k : (∀ h', kR h' t' s → kE o Q h')) : zz_J zp_P zt_tf zt_fd X d zm_141 0 [(0, .ref 49), (1, .ref x1), (2, .int x2)] [] h Q := by
  unfold cf_141_0 at hf
  obtain ⟨d', rfl⟩ : ∃ d', d = d' + 1 := ⟨d - 1, by omega⟩
  refine cb_141_0 hR  (fun {h} hR => ?_)
  rcases ko_call_ok hf with ⟨g1, v1, er, hf⟩ | ⟨g1, er, hq⟩
  · obtain ⟨hv, hf2⟩ := co_v_ok hf
    clear hf
    have hf := hf2
    clear hf2
    subst hv
    refine cr_157 (by omega) hR er (fun h hR => ?_)
    exact cr_141_37 hd hR hf k
  · refine cr_157 (by omega) hR er (fun h hR => ?_)
    exact ko_thrown hq hR k
/-- go -/
def cf_141 (N : Nat) (X : Nat → Option zz_C) (x1 : Nat) (x2 : Int32) (t : cS) : kO := cf_141_0 N X x1 x2 t
theorem cr_141 {X : Nat → Option zz_C} {s : mS} {N : Nat} {d : Nat} (hd : 26 ≤ d) {Q : zz_O → zz_H → Prop} {x1 : Nat} {x2 : Int32} {h : zz_H} {t t' : cS} {o : kY} (hR : kR h t s) (hf : cf_141 N X x1 x2 t = some (t', o)) (k : ∀ h', kR h' t' s → kE o Q h') : zz_J zp_P zt_tf zt_fd X d zm_141 0 [(0, .ref 49), (1, .ref x1), (2, .int x2)] [] h Q := by
  unfold cf_141 at hf
  exact zz_J.weak (cr_141_0 hd hR hf k) rfl ⟨rfl, rfl, rfl, trivial⟩
/-! yX4_empty ()V -/
theorem cb_168_0 {X : Nat → Option zz_C} {h : zz_H} {t : cS} {s : mS} {d : Nat} {Q : zz_O → zz_H → Prop}  (hR : kR h t s) (k : ∀ {h : zz_H}, kR h (jI t 45 1 0) s → Q (.inl none) h) : zz_J zp_P zt_tf zt_fd X d zm_168 0 [(0, .ref 45)] [] h Q := by
  refine zz_J.n 1 rfl rfl rfl ?_
  refine zz_J.c 2 (.int 0) rfl rfl rfl rfl ?_
  obtain ⟨h1, eq1, hR⟩ := hR.pI (x := (0 : Int32)) (by decide) ko_45 (kpi_45_1 _) (Nat.le_of_ble_eq_true rfl) rfl
  refine zz_J.pv 5 rfl eq1 rfl ?_
  clear eq1
  refine zz_J.ret rfl rfl rfl ?_
  exact k hR
def cf_168_0 (N : Nat) (X : Nat → Option zz_C)  (t : cS) : kO := some ((jI t 45 1 0), .inl none)
theorem cr_168_0 {X : Nat → Option zz_C} {s : mS} {N : Nat} {d : Nat} (hd : 0 ≤ d) {Q : zz_O → zz_H → Prop}  {h : zz_H} {t t' : cS} {o : kY} (hR : kR h t s) (hf : cf_168_0 N X  t = some (t', o)) (k : (∀ h', kR h' t' s → kE o Q h')) : zz_J zp_P zt_tf zt_fd X d zm_168 0 [(0, .ref 45)] [] h Q := by
  unfold cf_168_0 at hf
  cases hf
  exact cb_168_0 hR  (fun {h} hR => k h hR)
/-- empty -/
def cf_168 (N : Nat) (X : Nat → Option zz_C)  (t : cS) : kO := cf_168_0 N X  t
theorem cr_168 {X : Nat → Option zz_C} {s : mS} {N : Nat} {d : Nat} (hd : 0 ≤ d) {Q : zz_O → zz_H → Prop}  {h : zz_H} {t t' : cS} {o : kY} (hR : kR h t s) (hf : cf_168 N X  t = some (t', o)) (k : ∀ h', kR h' t' s → kE o Q h') : zz_J zp_P zt_tf zt_fd X d zm_168 0 [(0, .ref 45)] [] h Q := by
  unfold cf_168 at hf
  exact zz_J.weak (cr_168_0 hd hR hf k) rfl ⟨rfl, trivial⟩
/-! yX7_next (I)I -/
theorem cb_219_0 {X : Nat → Option zz_C} {h : zz_H} {t : cS} {s : mS} {d : Nat} {Q : zz_O → zz_H → Prop} {x0 : Nat} {x1 : Int32} (hR : kR h t s) (e0 : kH t x0 = true) (e1 : ¬ (x1 < 0 ∨ (kA t (2000000 + 20 * x0 + 10)).1 ≤ (Int32.toNatClampNeg x1))) (k1 : (kI t (3000000 + x0) 2) < ((kA t (2000000 + 20 * x0 + 10)).2 (Int32.toNatClampNeg x1)) → (∀ {h : zz_H}, kR h t s → zz_J zp_P zt_tf zt_fd X d zm_219 15 [(0, .ref x0), (1, .int x1)] [] h Q)) (k2 : ¬ (kI t (3000000 + x0) 2) < ((kA t (2000000 + 20 * x0 + 10)).2 (Int32.toNatClampNeg x1)) → (∀ {h : zz_H}, kR h t s → zz_J zp_P zt_tf zt_fd X d zm_219 13 [] [] h Q)) : zz_J zp_P zt_tf zt_fd X d zm_219 0 [(0, .ref x0), (1, .int x1)] [] h Q := by
  refine zz_J.n 1 rfl rfl rfl ?_
  refine zz_J.g 4 rfl (hR.gvS (v := .int (kI t (3000000 + x0) 2)) e0 rfl) rfl ?_
  refine zz_J.n 5 rfl rfl rfl ?_
  refine zz_J.g 8 rfl (hR.gvS (v := .ref (kD t (2000000 + 20 * x0 + 10))) e0 rfl) rfl ?_
  refine zz_J.n 9 rfl rfl rfl ?_
  refine zz_J.ai 10 rfl (hR.ai (w := ((kA t (2000000 + 20 * x0 + 10)).2 (Int32.toNatClampNeg x1))) (ka_S10 e0) rfl e1 rfl) rfl ?_
  refine zz_J.b2 15 13 (A := (kI t (3000000 + x0) 2) < ((kA t (2000000 + 20 * x0 + 10)).2 (Int32.toNatClampNeg x1))) rfl rfl (by decide) rfl rfl (fun c => ?_) (fun c => ?_)
  · exact zz_J.weak (k1 c hR) rfl ⟨rfl, rfl, trivial⟩
  · exact zz_J.weak (k2 c hR) rfl trivial
theorem cb_219_13 {X : Nat → Option zz_C} {h : zz_H} {t : cS} {s : mS} {d : Nat} {Q : zz_O → zz_H → Prop}  (hR : kR h t s) (k : ∀ {h : zz_H}, kR h t s → Q (.inl (some (.int 0))) h) : zz_J zp_P zt_tf zt_fd X d zm_219 13 [] [] h Q := by
  refine zz_J.c 14 (.int 0) rfl rfl rfl rfl ?_
  refine zz_J.ret rfl rfl rfl ?_
  exact k hR
theorem cb_219_15 {X : Nat → Option zz_C} {h : zz_H} {t : cS} {s : mS} {d : Nat} {Q : zz_O → zz_H → Prop} {x0 : Nat} {x1 : Int32} (hR : kR h t s) (e0 : kH t x0 = true) (e1 : ¬ (x1 < 0 ∨ 8 ≤ (Int32.toNatClampNeg x1))) (e2 : ¬ (((kI (jI t (3000000 + x0) 2 ((kI t (3000000 + x0) 2) + 1)) (3000000 + x0) 2) - 1) < 0 ∨ (kA t (2000000 + 20 * x0 + 1 + 1 + (Int32.toNatClampNeg x1))).1 ≤ (Int32.toNatClampNeg ((kI (jI t (3000000 + x0) 2 ((kI t (3000000 + x0) 2) + 1)) (3000000 + x0) 2) - 1)))) (k : ∀ {h : zz_H}, kR h (jI t (3000000 + x0) 2 ((kI t (3000000 + x0) 2) + 1)) s → Q (.inl (some (.int ((kA t (2000000 + 20 * x0 + 1 + 1 + (Int32.toNatClampNeg x1))).2 (Int32.toNatClampNeg ((kI (jI t (3000000 + x0) 2 ((kI t (3000000 + x0) 2) + 1)) (3000000 + x0) 2) - 1)))))) h) : zz_J zp_P zt_tf zt_fd X d zm_219 15 [(0, .ref x0), (1, .int x1)] [] h Q := by
  refine zz_J.n 16 rfl rfl rfl ?_
  refine zz_J.n 17 rfl rfl rfl ?_
  refine zz_J.g 20 rfl (hR.gvS (v := .int (kI t (3000000 + x0) 2)) e0 rfl) rfl ?_
  refine zz_J.c 21 (.int 1) rfl rfl rfl rfl ?_
  refine zz_J.n 22 rfl rfl rfl ?_
  obtain ⟨h1, eq1, hR⟩ := hR.pS (x := ((kI t (3000000 + x0) 2) + 1)) e0
  refine zz_J.pv 25 rfl eq1 rfl ?_
  clear eq1
  refine zz_J.n 26 rfl rfl rfl ?_
  refine zz_J.g 29 rfl (hR.gvS (v := .ref (kD t (2000000 + 20 * x0 + 1))) e0 rfl) rfl ?_
  refine zz_J.n 30 rfl rfl rfl ?_
  refine zz_J.ar 31 rfl (hR.arS e0 e1) rfl ?_
  refine zz_J.n 32 rfl rfl rfl ?_
  refine zz_J.g 35 rfl (hR.gvS (v := .int (kI (jI t (3000000 + x0) 2 ((kI t (3000000 + x0) 2) + 1)) (3000000 + x0) 2)) e0 rfl) rfl ?_
  refine zz_J.c 36 (.int 1) rfl rfl rfl rfl ?_
  refine zz_J.n 37 rfl rfl rfl ?_
  refine zz_J.ai 38 rfl (hR.ai (w := ((kA t (2000000 + 20 * x0 + 1 + 1 + (Int32.toNatClampNeg x1))).2 (Int32.toNatClampNeg ((kI (jI t (3000000 + x0) 2 ((kI t (3000000 + x0) 2) + 1)) (3000000 + x0) 2) - 1)))) (ka_Sr e0 e1) rfl e2 rfl) rfl ?_
  refine zz_J.ret rfl rfl rfl ?_
  exact k hR
def cf_219_15 (N : Nat) (X : Nat → Option zz_C) (x0 : Nat) (x1 : Int32) (t : cS) : kO := if kH t x0 = true then (if ¬ (x1 < 0 ∨ 8 ≤ (Int32.toNatClampNeg x1)) then (if ¬ (((kI (jI t (3000000 + x0) 2 ((kI t (3000000 + x0) 2) + 1)) (3000000 + x0) 2) - 1) < 0 ∨ (kA t (2000000 + 20 * x0 + 1 + 1 + (Int32.toNatClampNeg x1))).1 ≤ (Int32.toNatClampNeg ((kI (jI t (3000000 + x0) 2 ((kI t (3000000 + x0) 2) + 1)) (3000000 + x0) 2) - 1))) then (some ((jI t (3000000 + x0) 2 ((kI t (3000000 + x0) 2) + 1)), .inl (some (.int ((kA t (2000000 + 20 * x0 + 1 + 1 + (Int32.toNatClampNeg x1))).2 (Int32.toNatClampNeg ((kI (jI t (3000000 + x0) 2 ((kI t (3000000 + x0) 2) + 1)) (3000000 + x0) 2) - 1))))))) else none) else none) else none
theorem cr_219_15 {X : Nat → Option zz_C} {s : mS} {N : Nat} {d : Nat} (hd : 0 ≤ d) {Q : zz_O → zz_H → Prop} {x0 : Nat} {x1 : Int32} {h : zz_H} {t t' : cS} {o : kY} (hR : kR h t s) (hf : cf_219_15 N X x0 x1 t = some (t', o)) (k : (∀ h', kR h' t' s → kE o Q h')) : zz_J zp_P zt_tf zt_fd X d zm_219 15 [(0, .ref x0), (1, .int x1)] [] h Q := by
  unfold cf_219_15 at hf
  obtain ⟨e0, hf⟩ := ko_if hf
  obtain ⟨e1, hf⟩ := ko_if hf
  obtain ⟨e2, hf⟩ := ko_if hf
  cases hf
  exact cb_219_15 hR e0 e1 e2 (fun {h} hR => k h hR)
def cf_219_13 (N : Nat) (X : Nat → Option zz_C)  (t : cS) : kO := some (t, .inl (some (.int 0)))
theorem cr_219_13 {X : Nat → Option zz_C} {s : mS} {N : Nat} {d : Nat} (hd : 0 ≤ d) {Q : zz_O → zz_H → Prop}  {h : zz_H} {t t' : cS} {o : kY} (hR : kR h t s) (hf : cf_219_13 N X  t = some (t', o)) (k : (∀ h', kR h' t' s → kE o Q h')) : zz_J zp_P zt_tf zt_fd X d zm_219 13 [] [] h Q := by
  unfold cf_219_13 at hf
  cases hf
  exact cb_219_13 hR  (fun {h} hR => k h hR)
def cf_219_0 (N : Nat) (X : Nat → Option zz_C) (x0 : Nat) (x1 : Int32) (t : cS) : kO := if kH t x0 = true then (if ¬ (x1 < 0 ∨ (kA t (2000000 + 20 * x0 + 10)).1 ≤ (Int32.toNatClampNeg x1)) then (if (kI t (3000000 + x0) 2) < ((kA t (2000000 + 20 * x0 + 10)).2 (Int32.toNatClampNeg x1)) then cf_219_15 N X x0 x1 t else cf_219_13 N X  t) else none) else none
theorem cr_219_0 {X : Nat → Option zz_C} {s : mS} {N : Nat} {d : Nat} (hd : 0 ≤ d) {Q : zz_O → zz_H → Prop} {x0 : Nat} {x1 : Int32} {h : zz_H} {t t' : cS} {o : kY} (hR : kR h t s) (hf : cf_219_0 N X x0 x1 t = some (t', o)) (k : (∀ h', kR h' t' s → kE o Q h')) : zz_J zp_P zt_tf zt_fd X d zm_219 0 [(0, .ref x0), (1, .int x1)] [] h Q := by
  unfold cf_219_0 at hf
  obtain ⟨e0, hf⟩ := ko_if hf
  obtain ⟨e1, hf⟩ := ko_if hf
  refine cb_219_0 hR e0 e1 (fun c {h} hR => ?_) (fun c {h} hR => ?_)
  · rw [if_pos c] at hf
    exact cr_219_15 hd hR hf k
  · rw [if_neg c] at hf
    exact cr_219_13 hd hR hf k
/-- next -/
def cf_219 (N : Nat) (X : Nat → Option zz_C) (x0 : Nat) (x1 : Int32) (t : cS) : kO := cf_219_0 N X x0 x1 t
theorem cr_219 {X : Nat → Option zz_C} {s : mS} {N : Nat} {d : Nat} (hd : 0 ≤ d) {Q : zz_O → zz_H → Prop} {x0 : Nat} {x1 : Int32} {h : zz_H} {t t' : cS} {o : kY} (hR : kR h t s) (hf : cf_219 N X x0 x1 t = some (t', o)) (k : ∀ h', kR h' t' s → kE o Q h') : zz_J zp_P zt_tf zt_fd X d zm_219 0 [(0, .ref x0), (1, .int x1)] [] h Q := by
  unfold cf_219 at hf
  exact zz_J.weak (cr_219_0 hd hR hf k) rfl ⟨rfl, rfl, trivial⟩
/-! yX7_readRow (ILTallySlate$Heap;)J -/
theorem cb_218_0 {X : Nat → Option zz_C} {h : zz_H} {t : cS} {s : mS} {d : Nat} {Q : zz_O → zz_H → Prop} {x0 : Nat} {x1 : Int32} (hR : kR h t s) (k : ∀ {h : zz_H}, kR h t s → zz_J zp_P zt_tf zt_fd X d zm_122 0 [(0, .ref 42)] [] h (zz_after 2 Q (fun v h' => zz_J zp_P zt_tf zt_fd X (d + 1) zm_218 4 [(0, .ref x0), (1, .int x1), (2, .ref 42)] (v.toList ++ []) h' Q))) : zz_J zp_P zt_tf zt_fd X (d + 1) zm_218 0 [(0, .ref x0), (1, .int x1), (2, .ref 42)] [] h Q := by
  refine zz_J.n 1 rfl rfl rfl ?_
  refine zz_J.cv 4 (as := []) rfl rfl (hR.clO ko_42 (by decide) (by decide)) (by decide) (Nat.le_of_ble_eq_true rfl) (Nat.le_of_ble_eq_true rfl) rfl (Nat.le_of_ble_eq_true rfl) rfl ?_
  refine zz_J.mono (k hR) ?_
  intro o h' hE
  cases o with
  | inl v => exact zz_J.weak hE rfl ⟨rfl, rfl, rfl, trivial⟩
  | inr q => exact hE
theorem cb_218_4 {X : Nat → Option zz_C} {h : zz_H} {t : cS} {s : mS} {d : Nat} {Q : zz_O → zz_H → Prop} {x0 : Nat} {x1 : Int32} {y0 : Int32} (hR : kR h t s) (e0 : kH t x0 = true) (k : ∀ {h : zz_H}, kR h t s → zz_J zp_P zt_tf zt_fd X d zm_219 0 [(0, .ref x0), (1, .int x1)] [] h (zz_after 7 Q (fun v h' => zz_J zp_P zt_tf zt_fd X (d + 1) zm_218 10 [(0, .ref x0), (1, .int x1), (2, .ref 42), (3, .int y0)] (v.toList ++ []) h' Q))) : zz_J zp_P zt_tf zt_fd X (d + 1) zm_218 4 [(0, .ref x0), (1, .int x1), (2, .ref 42)] [.int y0] h Q := by
  refine zz_J.n 5 rfl rfl rfl ?_
  refine zz_J.n 6 rfl rfl rfl ?_
  refine zz_J.n 7 rfl rfl rfl ?_
  refine zz_J.cv 10 (as := []) rfl rfl (hR.clS e0 (by decide)) (by decide) (Nat.le_of_ble_eq_true rfl) (Nat.le_of_ble_eq_true rfl) rfl (Nat.le_of_ble_eq_true rfl) rfl ?_
  refine zz_J.mono (k hR) ?_
  intro o h' hE
  cases o with
  | inl v => exact zz_J.weak hE rfl ⟨rfl, rfl, rfl, rfl, trivial⟩
  | inr q => exact hE
theorem cb_218_10 {X : Nat → Option zz_C} {h : zz_H} {t : cS} {s : mS} {d : Nat} {Q : zz_O → zz_H → Prop} {x0 : Nat} {x1 : Int32} {x3 : Int32} {y0 : Int32} (hR : kR h t s) (k : ∀ {h : zz_H}, kR h t s → zz_J zp_P zt_tf zt_fd X d zm_218 15 [(0, .ref x0), (1, .int x1), (2, .ref 42), (3, .int x3), (4, .int y0), (5, .int 0)] [] h Q) : zz_J zp_P zt_tf zt_fd X d zm_218 10 [(0, .ref x0), (1, .int x1), (2, .ref 42), (3, .int x3)] [.int y0] h Q := by
  refine zz_J.n 12 rfl rfl rfl ?_
  refine zz_J.c 13 (.int 0) rfl rfl rfl rfl ?_
  refine zz_J.n 15 rfl rfl rfl ?_
  exact zz_J.weak (k hR) rfl ⟨rfl, rfl, rfl, rfl, rfl, rfl, trivial⟩
theorem cb_218_15 {X : Nat → Option zz_C} {h : zz_H} {t : cS} {s : mS} {d : Nat} {Q : zz_O → zz_H → Prop} {x0 : Nat} {x1 : Int32} {x3 : Int32} {x4 : Int32} {x5 : Int32} (hR : kR h t s) (k1 : x4 ≤ x5 → (∀ {h : zz_H}, kR h t s → zz_J zp_P zt_tf zt_fd X d zm_218 41 [(2, .ref 42), (3, .int x3)] [] h Q)) (k2 : ¬ x4 ≤ x5 → (∀ {h : zz_H}, kR h t s → zz_J zp_P zt_tf zt_fd X d zm_218 22 [(0, .ref x0), (1, .int x1), (2, .ref 42), (3, .int x3), (4, .int x4), (5, .int x5)] [] h Q)) : zz_J zp_P zt_tf zt_fd X d zm_218 15 [(0, .ref x0), (1, .int x1), (2, .ref 42), (3, .int x3), (4, .int x4), (5, .int x5)] [] h Q := by
  refine zz_J.n 17 rfl rfl rfl ?_
  refine zz_J.n 19 rfl rfl rfl ?_
  refine zz_J.b2 41 22 (A := x4 ≤ x5) rfl rfl (by decide) rfl rfl (fun c => ?_) (fun c => ?_)
  · exact zz_J.weak (k1 c hR) rfl ⟨rfl, rfl, trivial⟩
  · exact zz_J.weak (k2 c hR) rfl ⟨rfl, rfl, rfl, rfl, rfl, rfl, trivial⟩
theorem cb_218_22 {X : Nat → Option zz_C} {h : zz_H} {t : cS} {s : mS} {d : Nat} {Q : zz_O → zz_H → Prop} {x0 : Nat} {x1 : Int32} {x3 : Int32} {x4 : Int32} {x5 : Int32} (hR : kR h t s) (e0 : kH t x0 = true) (k : ∀ {h : zz_H}, kR h t s → zz_J zp_P zt_tf zt_fd X d zm_219 0 [(0, .ref x0), (1, .int x1)] [] h (zz_after 7 Q (fun v h' => zz_J zp_P zt_tf zt_fd X (d + 1) zm_218 29 [(0, .ref x0), (1, .int x1), (2, .ref 42), (3, .int x3), (4, .int x4), (5, .int x5)] (v.toList ++ [.int 0, .ref 42]) h' Q))) : zz_J zp_P zt_tf zt_fd X (d + 1) zm_218 22 [(0, .ref x0), (1, .int x1), (2, .ref 42), (3, .int x3), (4, .int x4), (5, .int x5)] [] h Q := by
  refine zz_J.n 23 rfl rfl rfl ?_
  refine zz_J.c 24 (.int 0) rfl rfl rfl rfl ?_
  refine zz_J.n 25 rfl rfl rfl ?_
  refine zz_J.n 26 rfl rfl rfl ?_
  refine zz_J.cv 29 (as := [.int 0, .ref 42]) rfl rfl (hR.clS e0 (by decide)) (by decide) (Nat.le_of_ble_eq_true rfl) (Nat.le_of_ble_eq_true rfl) rfl (Nat.le_of_ble_eq_true rfl) rfl ?_
  refine zz_J.mono (k hR) ?_
  intro o h' hE
  cases o with
  | inl v => exact zz_J.weak hE rfl ⟨rfl, rfl, rfl, rfl, rfl, rfl, trivial⟩
  | inr q => exact hE
theorem cb_218_29 {X : Nat → Option zz_C} {h : zz_H} {t : cS} {s : mS} {d : Nat} {Q : zz_O → zz_H → Prop} {x0 : Nat} {x1 : Int32} {x3 : Int32} {x4 : Int32} {x5 : Int32} {y1 : Int32} {y2 : Int32} (hR : kR h t s) (k : ∀ {h : zz_H}, kR h t s → zz_J zp_P zt_tf zt_fd X d zm_253 0 [(0, .int y1), (1, .int y2)] [] h (zz_after 1000 Q (fun v h' => zz_J zp_P zt_tf zt_fd X (d + 1) zm_218 32 [(0, .ref x0), (1, .int x1), (2, .ref 42), (3, .int x3), (4, .int x4), (5, .int x5)] (v.toList ++ [.ref 42]) h' Q))) : zz_J zp_P zt_tf zt_fd X (d + 1) zm_218 29 [(0, .ref x0), (1, .int x1), (2, .ref 42), (3, .int x3), (4, .int x4), (5, .int x5)] [.int y2, .int y1, .ref 42] h Q := by
  refine zz_J.cl (M' := zm_253) 32 rfl rfl (by decide) rfl rfl ⟨rfl, Nat.le_of_ble_eq_true rfl⟩ rfl ?_
  refine zz_J.mono (k hR) ?_
  intro o h' hE
  cases o with
  | inl v => exact zz_J.weak hE rfl ⟨rfl, rfl, rfl, rfl, rfl, rfl, trivial⟩
  | inr q => exact hE
theorem cb_218_32 {X : Nat → Option zz_C} {h : zz_H} {t : cS} {s : mS} {d : Nat} {Q : zz_O → zz_H → Prop} {x0 : Nat} {x1 : Int32} {x3 : Int32} {x4 : Int32} {x5 : Int32} {y1 : Int64} (hR : kR h t s) (k : ∀ {h : zz_H}, kR h t s → zz_J zp_P zt_tf zt_fd X d zm_123 0 [(0, .ref 42), (1, .long y1)] [] h (zz_after 2 Q (fun v h' => zz_J zp_P zt_tf zt_fd X (d + 1) zm_218 35 [(0, .ref x0), (1, .int x1), (2, .ref 42), (3, .int x3), (4, .int x4), (5, .int x5)] (v.toList ++ []) h' Q))) : zz_J zp_P zt_tf zt_fd X (d + 1) zm_218 32 [(0, .ref x0), (1, .int x1), (2, .ref 42), (3, .int x3), (4, .int x4), (5, .int x5)] [.long y1, .ref 42] h Q := by
  refine zz_J.cv 35 (as := []) rfl rfl (hR.clO ko_42 (by decide) (by decide)) (by decide) (Nat.le_of_ble_eq_true rfl) (Nat.le_of_ble_eq_true rfl) rfl (Nat.le_of_ble_eq_true rfl) rfl ?_
  refine zz_J.mono (k hR) ?_
  intro o h' hE
  cases o with
  | inl v => exact zz_J.weak hE rfl ⟨rfl, rfl, rfl, rfl, rfl, rfl, trivial⟩
  | inr q => exact hE
theorem cb_218_35 {X : Nat → Option zz_C} {h : zz_H} {t : cS} {s : mS} {d : Nat} {Q : zz_O → zz_H → Prop} {x0 : Nat} {x1 : Int32} {x3 : Int32} {x4 : Int32} {x5 : Int32} (hR : kR h t s) (k : ∀ {h : zz_H}, kR h t s → zz_J zp_P zt_tf zt_fd X d zm_218 15 [(0, .ref x0), (1, .int x1), (2, .ref 42), (3, .int x3), (4, .int x4), (5, .int (x5 + 1))] [] h Q) : zz_J zp_P zt_tf zt_fd X d zm_218 35 [(0, .ref x0), (1, .int x1), (2, .ref 42), (3, .int x3), (4, .int x4), (5, .int x5)] [] h Q := by
  refine zz_J.n 38 rfl rfl rfl ?_
  refine zz_J.n 15 rfl rfl rfl ?_
  exact zz_J.weak (k hR) rfl ⟨rfl, rfl, rfl, rfl, rfl, rfl, trivial⟩
theorem cb_218_41 {X : Nat → Option zz_C} {h : zz_H} {t : cS} {s : mS} {d : Nat} {Q : zz_O → zz_H → Prop} {x3 : Int32} (hR : kR h t s) (k : ∀ {h : zz_H}, kR h t s → zz_J zp_P zt_tf zt_fd X d zm_126 0 [(0, .ref 42), (1, .int 1), (2, .int x3)] [] h (zz_after 2 Q (fun v h' => zz_J zp_P zt_tf zt_fd X (d + 1) zm_218 47 [] (v.toList ++ []) h' Q))) : zz_J zp_P zt_tf zt_fd X (d + 1) zm_218 41 [(2, .ref 42), (3, .int x3)] [] h Q := by
  refine zz_J.n 42 rfl rfl rfl ?_
  refine zz_J.c 43 (.int 1) rfl rfl rfl rfl ?_
  refine zz_J.n 44 rfl rfl rfl ?_
  refine zz_J.cv 47 (as := []) rfl rfl (hR.clO ko_42 (by decide) (by decide)) (by decide) (Nat.le_of_ble_eq_true rfl) (Nat.le_of_ble_eq_true rfl) rfl (Nat.le_of_ble_eq_true rfl) rfl ?_
  refine zz_J.mono (k hR) ?_
  intro o h' hE
  cases o with
  | inl v => exact zz_J.weak hE rfl trivial
  | inr q => exact hE
theorem cb_218_47 {X : Nat → Option zz_C} {h : zz_H} {t : cS} {s : mS} {d : Nat} {Q : zz_O → zz_H → Prop} {y0 : Int64} (hR : kR h t s) (k : ∀ {h : zz_H}, kR h t s → Q (.inl (some (.long y0))) h) : zz_J zp_P zt_tf zt_fd X d zm_218 47 [] [.long y0] h Q := by
  refine zz_J.ret rfl rfl rfl ?_
  exact k hR
def cf_218_47 (N : Nat) (X : Nat → Option zz_C) (y0 : Int64) (t : cS) : kO := some (t, .inl (some (.long y0)))
theorem cr_218_47 {X : Nat → Option zz_C} {s : mS} {N : Nat} {d : Nat} (hd : 10 ≤ d) {Q : zz_O → zz_H → Prop} {y0 : Int64} {h : zz_H} {t t' : cS} {o : kY} (hR : kR h t s) (hf : cf_218_47 N X y0 t = some (t', o)) (k : (∀ h', kR h' t' s → kE o Q h')) : zz_J zp_P zt_tf zt_fd X d zm_218 47 [] [.long y0] h Q := by
  unfold cf_218_47 at hf
  cases hf
  exact cb_218_47 hR  (fun {h} hR => k h hR)
def cf_218_41 (N : Nat) (X : Nat → Option zz_C) (x3 : Int32) (t : cS) : kO := ko_call 2 (cf_126 N X 1 x3 t) (fun g1 v1 => co_l v1 (fun y => cf_218_47 N X y g1))
theorem cr_218_41 {X : Nat → Option zz_C} {s : mS} {N : Nat} {d : Nat} (hd : 10 ≤ d) {Q : zz_O → zz_H → Prop} {x3 : Int32} {h : zz_H} {t t' : cS} {o : kY} (hR : kR h t s) (hf : cf_218_41 N X x3 t = some (t', o)) (k : (∀ h', kR h' t' s → kE o Q h')) : zz_J zp_P zt_tf zt_fd X d zm_218 41 [(2, .ref 42), (3, .int x3)] [] h Q := by
  unfold cf_218_41 at hf
  obtain ⟨d', rfl⟩ : ∃ d', d = d' + 1 := ⟨d - 1, by omega⟩
  refine cb_218_41 hR  (fun {h} hR => ?_)
  rcases ko_call_ok hf with ⟨g1, v1, er, hf⟩ | ⟨g1, er, hq⟩
  · obtain ⟨y, hv, hf2⟩ := co_l_ok hf
    clear hf
    have hf := hf2
    clear hf2
    subst hv
    refine cr_126 (by omega) hR er (fun h hR => ?_)
    exact cr_218_47 hd hR hf k
  · refine cr_126 (by omega) hR er (fun h hR => ?_)
    exact ko_thrown hq hR k
def cf_218_35 (N : Nat) (X : Nat → Option zz_C) (rc : Nat → Nat → Int32 → Int32 → Int32 → Int32 → cS → kO) (x0 : Nat) (x1 : Int32) (x3 : Int32) (x4 : Int32) (x5 : Int32) (t : cS) : kO := rc 0 x0 x1 x3 x4 (x5 + 1) t
theorem cr_218_35 {X : Nat → Option zz_C} {s : mS} {N : Nat} {d : Nat} (hd : 10 ≤ d) {rc : Nat → Nat → Int32 → Int32 → Int32 → Int32 → cS → kO} (hrc0 : ∀ {Q : zz_O → zz_H → Prop} {x0 : Nat} {x1 : Int32} {x3 : Int32} {x4 : Int32} {x5 : Int32} {h : zz_H} {t t' : cS} {o : kY}, kR h t s → rc 0 x0 x1 x3 x4 x5 t = some (t', o) → (∀ h', kR h' t' s → kE o Q h') → zz_J zp_P zt_tf zt_fd X d zm_218 15 [(0, .ref x0), (1, .int x1), (2, .ref 42), (3, .int x3), (4, .int x4), (5, .int x5)] [] h Q) {Q : zz_O → zz_H → Prop} {x0 : Nat} {x1 : Int32} {x3 : Int32} {x4 : Int32} {x5 : Int32} {h : zz_H} {t t' : cS} {o : kY} (hR : kR h t s) (hf : cf_218_35 N X rc x0 x1 x3 x4 x5 t = some (t', o)) (k : (∀ h', kR h' t' s → kE o Q h')) : zz_J zp_P zt_tf zt_fd X d zm_218 35 [(0, .ref x0), (1, .int x1), (2, .ref 42), (3, .int x3), (4, .int x4), (5, .int x5)] [] h Q := by
  unfold cf_218_35 at hf
  exact cb_218_35 hR  (fun hR => hrc0 hR hf k)
def cf_218_32 (N : Nat) (X : Nat → Option zz_C) (rc : Nat → Nat → Int32 → Int32 → Int32 → Int32 → cS → kO) (x0 : Nat) (x1 : Int32) (x3 : Int32) (x4 : Int32) (x5 : Int32) (y1 : Int64) (t : cS) : kO := ko_call 2 (cf_123 N X y1 t) (fun g1 v1 => co_v v1 (cf_218_35 N X rc x0 x1 x3 x4 x5 g1))
theorem cr_218_32 {X : Nat → Option zz_C} {s : mS} {N : Nat} {d : Nat} (hd : 10 ≤ d) {rc : Nat → Nat → Int32 → Int32 → Int32 → Int32 → cS → kO} (hrc0 : ∀ {Q : zz_O → zz_H → Prop} {x0 : Nat} {x1 : Int32} {x3 : Int32} {x4 : Int32} {x5 : Int32} {h : zz_H} {t t' : cS} {o : kY}, kR h t s → rc 0 x0 x1 x3 x4 x5 t = some (t', o) → (∀ h', kR h' t' s → kE o Q h') → zz_J zp_P zt_tf zt_fd X d zm_218 15 [(0, .ref x0), (1, .int x1), (2, .ref 42), (3, .int x3), (4, .int x4), (5, .int x5)] [] h Q) {Q : zz_O → zz_H → Prop} {x0 : Nat} {x1 : Int32} {x3 : Int32} {x4 : Int32} {x5 : Int32} {y1 : Int64} {h : zz_H} {t t' : cS} {o : kY} (hR : kR h t s) (hf : cf_218_32 N X rc x0 x1 x3 x4 x5 y1 t = some (t', o)) (k : (∀ h', kR h' t' s → kE o Q h')) : zz_J zp_P zt_tf zt_fd X d zm_218 32 [(0, .ref x0), (1, .int x1), (2, .ref 42), (3, .int x3), (4, .int x4), (5, .int x5)] [.long y1, .ref 42] h Q := by
  unfold cf_218_32 at hf
  obtain ⟨d', rfl⟩ : ∃ d', d = d' + 1 := ⟨d - 1, by omega⟩
  refine cb_218_32 hR  (fun {h} hR => ?_)
  rcases ko_call_ok hf with ⟨g1, v1, er, hf⟩ | ⟨g1, er, hq⟩
  · obtain ⟨hv, hf2⟩ := co_v_ok hf
    clear hf
    have hf := hf2
    clear hf2
    subst hv
    refine cr_123 (by omega) hR er (fun h hR => ?_)
    exact cr_218_35 hd hrc0 hR hf k
  · refine cr_123 (by omega) hR er (fun h hR => ?_)
    exact ko_thrown hq hR k
def cf_218_29 (N : Nat) (X : Nat → Option zz_C) (rc : Nat → Nat → Int32 → Int32 → Int32 → Int32 → cS → kO) (x0 : Nat) (x1 : Int32) (x3 : Int32) (x4 : Int32) (x5 : Int32) (y1 : Int32) (y2 : Int32) (t : cS) : kO := ko_call 1000 (cf_253 N X y1 y2 t) (fun g1 v1 => co_l v1 (fun y => cf_218_32 N X rc x0 x1 x3 x4 x5 y g1))
theorem cr_218_29 {X : Nat → Option zz_C} {s : mS} {N : Nat} {d : Nat} (hd : 10 ≤ d) {rc : Nat → Nat → Int32 → Int32 → Int32 → Int32 → cS → kO} (hrc0 : ∀ {Q : zz_O → zz_H → Prop} {x0 : Nat} {x1 : Int32} {x3 : Int32} {x4 : Int32} {x5 : Int32} {h : zz_H} {t t' : cS} {o : kY}, kR h t s → rc 0 x0 x1 x3 x4 x5 t = some (t', o) → (∀ h', kR h' t' s → kE o Q h') → zz_J zp_P zt_tf zt_fd X d zm_218 15 [(0, .ref x0), (1, .int x1), (2, .ref 42), (3, .int x3), (4, .int x4), (5, .int x5)] [] h Q) {Q : zz_O → zz_H → Prop} {x0 : Nat} {x1 : Int32} {x3 : Int32} {x4 : Int32} {x5 : Int32} {y1 : Int32} {y2 : Int32} {h : zz_H} {t t' : cS} {o : kY} (hR : kR h t s) (hf : cf_218_29 N X rc x0 x1 x3 x4 x5 y1 y2 t = some (t', o)) (k : (∀ h', kR h' t' s → kE o Q h')) : zz_J zp_P zt_tf zt_fd X d zm_218 29 [(0, .ref x0), (1, .int x1), (2, .ref 42), (3, .int x3), (4, .int x4), (5, .int x5)] [.int y2, .int y1, .ref 42] h Q := by
  unfold cf_218_29 at hf
  obtain ⟨d', rfl⟩ : ∃ d', d = d' + 1 := ⟨d - 1, by omega⟩
  refine cb_218_29 hR  (fun {h} hR => ?_)
  rcases ko_call_ok hf with ⟨g1, v1, er, hf⟩ | ⟨g1, er, hq⟩
  · obtain ⟨y, hv, hf2⟩ := co_l_ok hf
    clear hf
    have hf := hf2
    clear hf2
    subst hv
    refine cr_253 (by omega) hR er (fun h hR => ?_)
    exact cr_218_32 hd hrc0 hR hf k
  · refine cr_253 (by omega) hR er (fun h hR => ?_)
    exact ko_thrown hq hR k
def cf_218_22 (N : Nat) (X : Nat → Option zz_C) (rc : Nat → Nat → Int32 → Int32 → Int32 → Int32 → cS → kO) (x0 : Nat) (x1 : Int32) (x3 : Int32) (x4 : Int32) (x5 : Int32) (t : cS) : kO := if kH t x0 = true then (ko_call 7 (cf_219 N X x0 x1 t) (fun g1 v1 => co_i v1 (fun y => cf_218_29 N X rc x0 x1 x3 x4 x5 0 y g1))) else none
theorem cr_218_22 {X : Nat → Option zz_C} {s : mS} {N : Nat} {d : Nat} (hd : 10 ≤ d) {rc : Nat → Nat → Int32 → Int32 → Int32 → Int32 → cS → kO} (hrc0 : ∀ {Q : zz_O → zz_H → Prop} {x0 : Nat} {x1 : Int32} {x3 : Int32} {x4 : Int32} {x5 : Int32} {h : zz_H} {t t' : cS} {o : kY}, kR h t s → rc 0 x0 x1 x3 x4 x5 t = some (t', o) → (∀ h', kR h' t' s → kE o Q h') → zz_J zp_P zt_tf zt_fd X d zm_218 15 [(0, .ref x0), (1, .int x1), (2, .ref 42), (3, .int x3), (4, .int x4), (5, .int x5)] [] h Q) {Q : zz_O → zz_H → Prop} {x0 : Nat} {x1 : Int32} {x3 : Int32} {x4 : Int32} {x5 : Int32} {h : zz_H} {t t' : cS} {o : kY} (hR : kR h t s) (hf : cf_218_22 N X rc x0 x1 x3 x4 x5 t = some (t', o)) (k : (∀ h', kR h' t' s → kE o Q h')) : zz_J zp_P zt_tf zt_fd X d zm_218 22 [(0, .ref x0), (1, .int x1), (2, .ref 42), (3, .int x3), (4, .int x4), (5, .int x5)] [] h Q := by
  unfold cf_218_22 at hf
  obtain ⟨e0, hf⟩ := ko_if hf
  obtain ⟨d', rfl⟩ : ∃ d', d = d' + 1 := ⟨d - 1, by omega⟩
  refine cb_218_22 hR e0 (fun {h} hR => ?_)
  rcases ko_call_ok hf with ⟨g1, v1, er, hf⟩ | ⟨g1, er, hq⟩
  · obtain ⟨y, hv, hf2⟩ := co_i_ok hf
    clear hf
    have hf := hf2
    clear hf2
    subst hv
    refine cr_219 (by omega) hR er (fun h hR => ?_)
    exact cr_218_29 hd hrc0 hR hf k
  · refine cr_219 (by omega) hR er (fun h hR => ?_)
    exact ko_thrown hq hR k
def cf_218_15 (N : Nat) (X : Nat → Option zz_C) (rc : Nat → Nat → Int32 → Int32 → Int32 → Int32 → cS → kO) (x0 : Nat) (x1 : Int32) (x3 : Int32) (x4 : Int32) (x5 : Int32) (t : cS) : kO := if x4 ≤ x5 then cf_218_41 N X x3 t else cf_218_22 N X rc x0 x1 x3 x4 x5 t
theorem cr_218_15 {X : Nat → Option zz_C} {s : mS} {N : Nat} {d : Nat} (hd : 10 ≤ d) {rc : Nat → Nat → Int32 → Int32 → Int32 → Int32 → cS → kO} (hrc0 : ∀ {Q : zz_O → zz_H → Prop} {x0 : Nat} {x1 : Int32} {x3 : Int32} {x4 : Int32} {x5 : Int32} {h : zz_H} {t t' : cS} {o : kY}, kR h t s → rc 0 x0 x1 x3 x4 x5 t = some (t', o) → (∀ h', kR h' t' s → kE o Q h') → zz_J zp_P zt_tf zt_fd X d zm_218 15 [(0, .ref x0), (1, .int x1), (2, .ref 42), (3, .int x3), (4, .int x4), (5, .int x5)] [] h Q) {Q : zz_O → zz_H → Prop} {x0 : Nat} {x1 : Int32} {x3 : Int32} {x4 : Int32} {x5 : Int32} {h : zz_H} {t t' : cS} {o : kY} (hR : kR h t s) (hf : cf_218_15 N X rc x0 x1 x3 x4 x5 t = some (t', o)) (k : (∀ h', kR h' t' s → kE o Q h')) : zz_J zp_P zt_tf zt_fd X d zm_218 15 [(0, .ref x0), (1, .int x1), (2, .ref 42), (3, .int x3), (4, .int x4), (5, .int x5)] [] h Q := by
  unfold cf_218_15 at hf
  refine cb_218_15 hR  (fun c {h} hR => ?_) (fun c {h} hR => ?_)
  · rw [if_pos c] at hf
    exact cr_218_41 hd hR hf k
  · rw [if_neg c] at hf
    exact cr_218_22 hd hrc0 hR hf k
def cf_218_L2 (N : Nat) (X : Nat → Option zz_C) : Nat → Nat → Nat → Int32 → Int32 → Int32 → Int32 → cS → kO
  | 0, _, _, _, _, _, _, _ => none
  | n + 1, l, x0, x1, x3, x4, x5, t => if l = 0 then cf_218_15 N X (cf_218_L2 N X n) x0 x1 x3 x4 x5 t else none
theorem cr_218_L2 {X : Nat → Option zz_C} {s : mS} {N : Nat} {d : Nat} (hd : 10 ≤ d) : ∀ n : Nat, (∀ {Q : zz_O → zz_H → Prop} {x0 : Nat} {x1 : Int32} {x3 : Int32} {x4 : Int32} {x5 : Int32} {h : zz_H} {t t' : cS} {o : kY}, kR h t s → cf_218_L2 N X n 0 x0 x1 x3 x4 x5 t = some (t', o) → (∀ h', kR h' t' s → kE o Q h') → zz_J zp_P zt_tf zt_fd X d zm_218 15 [(0, .ref x0), (1, .int x1), (2, .ref 42), (3, .int x3), (4, .int x4), (5, .int x5)] [] h Q) := by
  intro n
  induction n with
  | zero => exact (fun _ hf _ => by cases hf)
  | succ n ih =>
    have h0 := @ih
    intro Q _ _ _ _ _ h t t' o hR hf k
    unfold cf_218_L2 at hf
    rw [if_pos rfl] at hf
    exact cr_218_15 hd h0 hR hf k
def cf_218_10 (N : Nat) (X : Nat → Option zz_C) (x0 : Nat) (x1 : Int32) (x3 : Int32) (y0 : Int32) (t : cS) : kO := cf_218_L2 N X N 0 x0 x1 x3 y0 0 t
theorem cr_218_10 {X : Nat → Option zz_C} {s : mS} {N : Nat} {d : Nat} (hd : 10 ≤ d) {Q : zz_O → zz_H → Prop} {x0 : Nat} {x1 : Int32} {x3 : Int32} {y0 : Int32} {h : zz_H} {t t' : cS} {o : kY} (hR : kR h t s) (hf : cf_218_10 N X x0 x1 x3 y0 t = some (t', o)) (k : (∀ h', kR h' t' s → kE o Q h')) : zz_J zp_P zt_tf zt_fd X d zm_218 10 [(0, .ref x0), (1, .int x1), (2, .ref 42), (3, .int x3)] [.int y0] h Q := by
  unfold cf_218_10 at hf
  exact cb_218_10 hR  (fun hR => cr_218_L2 hd N hR hf k)
def cf_218_4 (N : Nat) (X : Nat → Option zz_C) (x0 : Nat) (x1 : Int32) (y0 : Int32) (t : cS) : kO := if kH t x0 = true then (ko_call 7 (cf_219 N X x0 x1 t) (fun g1 v1 => co_i v1 (fun y => cf_218_10 N X x0 x1 y0 y g1))) else none
theorem cr_218_4 {X : Nat → Option zz_C} {s : mS} {N : Nat} {d : Nat} (hd : 10 ≤ d) {Q : zz_O → zz_H → Prop} {x0 : Nat} {x1 : Int32} {y0 : Int32} {h : zz_H} {t t' : cS} {o : kY} (hR : kR h t s) (hf : cf_218_4 N X x0 x1 y0 t = some (t', o)) (k : (∀ h', kR h' t' s → kE o Q h')) : zz_J zp_P zt_tf zt_fd X d zm_218 4 [(0, .ref x0), (1, .int x1), (2, .ref 42)] [.int y0] h Q := by
  unfold cf_218_4 at hf
  obtain ⟨e0, hf⟩ := ko_if hf
  obtain ⟨d', rfl⟩ : ∃ d', d = d' + 1 := ⟨d - 1, by omega⟩
  refine cb_218_4 hR e0 (fun {h} hR => ?_)
  rcases ko_call_ok hf with ⟨g1, v1, er, hf⟩ | ⟨g1, er, hq⟩
  · obtain ⟨y, hv, hf2⟩ := co_i_ok hf
    clear hf
    have hf := hf2
    clear hf2
    subst hv
    refine cr_219 (by omega) hR er (fun h hR => ?_)
    exact cr_218_10 hd hR hf k
  · refine cr_219 (by omega) hR er (fun h hR => ?_)
    exact ko_thrown hq hR k
def cf_218_0 (N : Nat) (X : Nat → Option zz_C) (x0 : Nat) (x1 : Int32) (t : cS) : kO := ko_call 2 (cf_122 N X  t) (fun g1 v1 => co_i v1 (fun y => cf_218_4 N X x0 x1 y g1))
theorem cr_218_0 {X : Nat → Option zz_C} {s : mS} {N : Nat} {d : Nat} (hd : 10 ≤ d) {Q : zz_O → zz_H → Prop} {x0 : Nat} {x1 : Int32} {h : zz_H} {t t' : cS} {o : kY} (hR : kR h t s) (hf : cf_218_0 N X x0 x1 t = some (t', o)) (k : (∀ h', kR h' t' s → kE o Q h')) : zz_J zp_P zt_tf zt_fd X d zm_218 0 [(0, .ref x0), (1, .int x1), (2, .ref 42)] [] h Q := by
  unfold cf_218_0 at hf
  obtain ⟨d', rfl⟩ : ∃ d', d = d' + 1 := ⟨d - 1, by omega⟩
  refine cb_218_0 hR  (fun {h} hR => ?_)
  rcases ko_call_ok hf with ⟨g1, v1, er, hf⟩ | ⟨g1, er, hq⟩
  · obtain ⟨y, hv, hf2⟩ := co_i_ok hf
    clear hf
    have hf := hf2
    clear hf2
    subst hv
    refine cr_122 (by omega) hR er (fun h hR => ?_)
    exact cr_218_4 hd hR hf k
  · refine cr_122 (by omega) hR er (fun h hR => ?_)
    exact ko_thrown hq hR k
/-- readRow -/
def cf_218 (N : Nat) (X : Nat → Option zz_C) (x0 : Nat) (x1 : Int32) (t : cS) : kO := cf_218_0 N X x0 x1 t
theorem cr_218 {X : Nat → Option zz_C} {s : mS} {N : Nat} {d : Nat} (hd : 10 ≤ d) {Q : zz_O → zz_H → Prop} {x0 : Nat} {x1 : Int32} {h : zz_H} {t t' : cS} {o : kY} (hR : kR h t s) (hf : cf_218 N X x0 x1 t = some (t', o)) (k : ∀ h', kR h' t' s → kE o Q h') : zz_J zp_P zt_tf zt_fd X d zm_218 0 [(0, .ref x0), (1, .int x1), (2, .ref 42)] [] h Q := by
  unfold cf_218 at hf
  exact zz_J.weak (cr_218_0 hd hR hf k) rfl ⟨rfl, rfl, rfl, trivial⟩
/-! a group that calls itself: readThing -/
def cK4 (X : Nat → Option zz_C) (s : mS) (D : Nat) (rk : Nat → List Value → cS → kO) : Prop := (∀ {d : Nat} (_ : D ≤ d) {Q : zz_O → zz_H → Prop} {x0 : Nat} {x1 : Int32} {x3 : Int32} {h : zz_H} {t t' : cS} {o : kY} (_ : kR h t s) (_ : rk 217 [.ref x0, .int x1, .int x3] t = some (t', o)) (_ : ∀ h', kR h' t' s → kE o Q h'), zz_J zp_P zt_tf zt_fd X d zm_217 0 [(0, .ref x0), (1, .int x1), (2, .ref 42), (3, .int x3)] [] h Q)
/-! yX7_readThing -/
theorem cb_217_0 {X : Nat → Option zz_C} {h : zz_H} {t : cS} {s : mS} {d : Nat} {Q : zz_O → zz_H → Prop} {x0 : Nat} {x1 : Int32} {x3 : Int32} (hR : kR h t s) (e0 : kH t x0 = true) (k : ∀ {h : zz_H}, kR h t s → zz_J zp_P zt_tf zt_fd X d zm_219 0 [(0, .ref x0), (1, .int x1)] [] h (zz_after 7 Q (fun v h' => zz_J zp_P zt_tf zt_fd X (d + 1) zm_217 5 [(0, .ref x0), (1, .int x1), (2, .ref 42), (3, .int x3)] (v.toList ++ []) h' Q))) : zz_J zp_P zt_tf zt_fd X (d + 1) zm_217 0 [(0, .ref x0), (1, .int x1), (2, .ref 42), (3, .int x3)] [] h Q := by
  refine zz_J.n 1 rfl rfl rfl ?_
  refine zz_J.n 2 rfl rfl rfl ?_
  refine zz_J.cv 5 (as := []) rfl rfl (hR.clS e0 (by decide)) (by decide) (Nat.le_of_ble_eq_true rfl) (Nat.le_of_ble_eq_true rfl) rfl (Nat.le_of_ble_eq_true rfl) rfl ?_
  refine zz_J.mono (k hR) ?_
  intro o h' hE
  cases o with
  | inl v => exact zz_J.weak hE rfl ⟨rfl, rfl, rfl, rfl, trivial⟩
  | inr q => exact hE
theorem cb_217_5 {X : Nat → Option zz_C} {h : zz_H} {t : cS} {s : mS} {d : Nat} {Q : zz_O → zz_H → Prop} {x0 : Nat} {x1 : Int32} {x3 : Int32} {y0 : Int32} (hR : kR h t s) (k1 : y0 = 0 → (∀ {h : zz_H}, kR h t s → zz_J zp_P zt_tf zt_fd X d zm_217 17 [(0, .ref x0), (1, .int x1)] [] h Q)) (k2 : ¬ y0 = 0 → (∀ {h : zz_H}, kR h t s → zz_J zp_P zt_tf zt_fd X d zm_217 12 [(0, .ref x0), (1, .int x1), (2, .ref 42), (3, .int x3), (4, .int y0)] [] h Q)) : zz_J zp_P zt_tf zt_fd X d zm_217 5 [(0, .ref x0), (1, .int x1), (2, .ref 42), (3, .int x3)] [.int y0] h Q := by
  refine zz_J.n 7 rfl rfl rfl ?_
  refine zz_J.n 9 rfl rfl rfl ?_
  refine zz_J.b1 17 12 (A := y0 = 0) rfl rfl (by decide) rfl rfl (fun c => ?_) (fun c => ?_)
  · exact zz_J.weak (k1 c hR) rfl ⟨rfl, rfl, trivial⟩
  · exact zz_J.weak (k2 c hR) rfl ⟨rfl, rfl, rfl, rfl, rfl, trivial⟩
theorem cb_217_12 {X : Nat → Option zz_C} {h : zz_H} {t : cS} {s : mS} {d : Nat} {Q : zz_O → zz_H → Prop} {x0 : Nat} {x1 : Int32} {x3 : Int32} {x4 : Int32} (hR : kR h t s) (k1 : x3 ≤ 4 → (∀ {h : zz_H}, kR h t s → zz_J zp_P zt_tf zt_fd X d zm_217 27 [(0, .ref x0), (1, .int x1), (2, .ref 42), (3, .int x3), (4, .int x4)] [] h Q)) (k2 : ¬ x3 ≤ 4 → (∀ {h : zz_H}, kR h t s → zz_J zp_P zt_tf zt_fd X d zm_217 17 [(0, .ref x0), (1, .int x1)] [] h Q)) : zz_J zp_P zt_tf zt_fd X d zm_217 12 [(0, .ref x0), (1, .int x1), (2, .ref 42), (3, .int x3), (4, .int x4)] [] h Q := by
  refine zz_J.n 13 rfl rfl rfl ?_
  refine zz_J.c 14 (.int 4) rfl rfl rfl rfl ?_
  refine zz_J.b2 27 17 (A := x3 ≤ 4) rfl rfl (by decide) rfl rfl (fun c => ?_) (fun c => ?_)
  · exact zz_J.weak (k1 c hR) rfl ⟨rfl, rfl, rfl, rfl, rfl, trivial⟩
  · exact zz_J.weak (k2 c hR) rfl ⟨rfl, rfl, trivial⟩
theorem cb_217_17 {X : Nat → Option zz_C} {h : zz_H} {t : cS} {s : mS} {d : Nat} {Q : zz_O → zz_H → Prop} {x0 : Nat} {x1 : Int32} (hR : kR h t s) (e0 : kH t x0 = true) (k : ∀ {h : zz_H}, kR h t s → zz_J zp_P zt_tf zt_fd X d zm_219 0 [(0, .ref x0), (1, .int x1)] [] h (zz_after 7 Q (fun v h' => zz_J zp_P zt_tf zt_fd X (d + 1) zm_217 23 [] (v.toList ++ [.int 0]) h' Q))) : zz_J zp_P zt_tf zt_fd X (d + 1) zm_217 17 [(0, .ref x0), (1, .int x1)] [] h Q := by
  refine zz_J.c 18 (.int 0) rfl rfl rfl rfl ?_
  refine zz_J.n 19 rfl rfl rfl ?_
  refine zz_J.n 20 rfl rfl rfl ?_
  refine zz_J.cv 23 (as := [.int 0]) rfl rfl (hR.clS e0 (by decide)) (by decide) (Nat.le_of_ble_eq_true rfl) (Nat.le_of_ble_eq_true rfl) rfl (Nat.le_of_ble_eq_true rfl) rfl ?_
  refine zz_J.mono (k hR) ?_
  intro o h' hE
  cases o with
  | inl v => exact zz_J.weak hE rfl trivial
  | inr q => exact hE
theorem cb_217_23 {X : Nat → Option zz_C} {h : zz_H} {t : cS} {s : mS} {d : Nat} {Q : zz_O → zz_H → Prop} {y0 : Int32} {y1 : Int32} (hR : kR h t s) (k : ∀ {h : zz_H}, kR h t s → zz_J zp_P zt_tf zt_fd X d zm_253 0 [(0, .int y0), (1, .int y1)] [] h (zz_after 1000 Q (fun v h' => zz_J zp_P zt_tf zt_fd X (d + 1) zm_217 26 [] (v.toList ++ []) h' Q))) : zz_J zp_P zt_tf zt_fd X (d + 1) zm_217 23 [] [.int y1, .int y0] h Q := by
  refine zz_J.cl (M' := zm_253) 26 rfl rfl (by decide) rfl rfl ⟨rfl, Nat.le_of_ble_eq_true rfl⟩ rfl ?_
  refine zz_J.mono (k hR) ?_
  intro o h' hE
  cases o with
  | inl v => exact zz_J.weak hE rfl trivial
  | inr q => exact hE
theorem cb_217_26 {X : Nat → Option zz_C} {h : zz_H} {t : cS} {s : mS} {d : Nat} {Q : zz_O → zz_H → Prop} {y0 : Int64} (hR : kR h t s) (k : ∀ {h : zz_H}, kR h t s → Q (.inl (some (.long y0))) h) : zz_J zp_P zt_tf zt_fd X d zm_217 26 [] [.long y0] h Q := by
  refine zz_J.ret rfl rfl rfl ?_
  exact k hR
theorem cb_217_27 {X : Nat → Option zz_C} {h : zz_H} {t : cS} {s : mS} {d : Nat} {Q : zz_O → zz_H → Prop} {x0 : Nat} {x1 : Int32} {x3 : Int32} {x4 : Int32} (hR : kR h t s) (k1 : ¬ x4 = 1 → (∀ {h : zz_H}, kR h t s → zz_J zp_P zt_tf zt_fd X d zm_217 40 [(0, .ref x0), (1, .int x1), (2, .ref 42), (3, .int x3), (4, .int x4)] [] h Q)) (k2 : ¬ ¬ x4 = 1 → (∀ {h : zz_H}, kR h t s → zz_J zp_P zt_tf zt_fd X d zm_217 33 [(0, .ref x0), (1, .int x1), (2, .ref 42)] [] h Q)) : zz_J zp_P zt_tf zt_fd X d zm_217 27 [(0, .ref x0), (1, .int x1), (2, .ref 42), (3, .int x3), (4, .int x4)] [] h Q := by
  refine zz_J.n 29 rfl rfl rfl ?_
  refine zz_J.c 30 (.int 1) rfl rfl rfl rfl ?_
  refine zz_J.b2 40 33 (A := ¬ x4 = 1) rfl (zz_cond_ne _ _) (by decide) rfl rfl (fun c => ?_) (fun c => ?_)
  · exact zz_J.weak (k1 c hR) rfl ⟨rfl, rfl, rfl, rfl, rfl, trivial⟩
  · exact zz_J.weak (k2 c hR) rfl ⟨rfl, rfl, rfl, trivial⟩
theorem cb_217_33 {X : Nat → Option zz_C} {h : zz_H} {t : cS} {s : mS} {d : Nat} {Q : zz_O → zz_H → Prop} {x0 : Nat} {x1 : Int32} (hR : kR h t s) (e0 : kH t x0 = true) (k : ∀ {h : zz_H}, kR h t s → zz_J zp_P zt_tf zt_fd X d zm_218 0 [(0, .ref x0), (1, .int x1), (2, .ref 42)] [] h (zz_after 7 Q (fun v h' => zz_J zp_P zt_tf zt_fd X (d + 1) zm_217 39 [] (v.toList ++ []) h' Q))) : zz_J zp_P zt_tf zt_fd X (d + 1) zm_217 33 [(0, .ref x0), (1, .int x1), (2, .ref 42)] [] h Q := by
  refine zz_J.n 34 rfl rfl rfl ?_
  refine zz_J.n 35 rfl rfl rfl ?_
  refine zz_J.n 36 rfl rfl rfl ?_
  refine zz_J.cv 39 (as := []) rfl rfl (hR.clS e0 (by decide)) (by decide) (Nat.le_of_ble_eq_true rfl) (Nat.le_of_ble_eq_true rfl) rfl (Nat.le_of_ble_eq_true rfl) rfl ?_
  refine zz_J.mono (k hR) ?_
  intro o h' hE
  cases o with
  | inl v => exact zz_J.weak hE rfl trivial
  | inr q => exact hE
theorem cb_217_39 {X : Nat → Option zz_C} {h : zz_H} {t : cS} {s : mS} {d : Nat} {Q : zz_O → zz_H → Prop} {y0 : Int64} (hR : kR h t s) (k : ∀ {h : zz_H}, kR h t s → Q (.inl (some (.long y0))) h) : zz_J zp_P zt_tf zt_fd X d zm_217 39 [] [.long y0] h Q := by
  refine zz_J.ret rfl rfl rfl ?_
  exact k hR
theorem cb_217_40 {X : Nat → Option zz_C} {h : zz_H} {t : cS} {s : mS} {d : Nat} {Q : zz_O → zz_H → Prop} {x0 : Nat} {x1 : Int32} {x3 : Int32} {x4 : Int32} (hR : kR h t s) (k : ∀ {h : zz_H}, kR h t s → zz_J zp_P zt_tf zt_fd X d zm_122 0 [(0, .ref 42)] [] h (zz_after 2 Q (fun v h' => zz_J zp_P zt_tf zt_fd X (d + 1) zm_217 44 [(0, .ref x0), (1, .int x1), (2, .ref 42), (3, .int x3), (4, .int x4)] (v.toList ++ []) h' Q))) : zz_J zp_P zt_tf zt_fd X (d + 1) zm_217 40 [(0, .ref x0), (1, .int x1), (2, .ref 42), (3, .int x3), (4, .int x4)] [] h Q := by
  refine zz_J.n 41 rfl rfl rfl ?_
  refine zz_J.cv 44 (as := []) rfl rfl (hR.clO ko_42 (by decide) (by decide)) (by decide) (Nat.le_of_ble_eq_true rfl) (Nat.le_of_ble_eq_true rfl) rfl (Nat.le_of_ble_eq_true rfl) rfl ?_
  refine zz_J.mono (k hR) ?_
  intro o h' hE
  cases o with
  | inl v => exact zz_J.weak hE rfl ⟨rfl, rfl, rfl, rfl, rfl, trivial⟩
  | inr q => exact hE
theorem cb_217_44 {X : Nat → Option zz_C} {h : zz_H} {t : cS} {s : mS} {d : Nat} {Q : zz_O → zz_H → Prop} {x0 : Nat} {x1 : Int32} {x3 : Int32} {x4 : Int32} {y0 : Int32} (hR : kR h t s) (e0 : kH t x0 = true) (k : ∀ {h : zz_H}, kR h t s → zz_J zp_P zt_tf zt_fd X d zm_219 0 [(0, .ref x0), (1, .int x1)] [] h (zz_after 7 Q (fun v h' => zz_J zp_P zt_tf zt_fd X (d + 1) zm_217 51 [(0, .ref x0), (1, .int x1), (2, .ref 42), (3, .int x3), (4, .int x4), (5, .int y0)] (v.toList ++ []) h' Q))) : zz_J zp_P zt_tf zt_fd X (d + 1) zm_217 44 [(0, .ref x0), (1, .int x1), (2, .ref 42), (3, .int x3), (4, .int x4)] [.int y0] h Q := by
  refine zz_J.n 46 rfl rfl rfl ?_
  refine zz_J.n 47 rfl rfl rfl ?_
  refine zz_J.n 48 rfl rfl rfl ?_
  refine zz_J.cv 51 (as := []) rfl rfl (hR.clS e0 (by decide)) (by decide) (Nat.le_of_ble_eq_true rfl) (Nat.le_of_ble_eq_true rfl) rfl (Nat.le_of_ble_eq_true rfl) rfl ?_
  refine zz_J.mono (k hR) ?_
  intro o h' hE
  cases o with
  | inl v => exact zz_J.weak hE rfl ⟨rfl, rfl, rfl, rfl, rfl, rfl, trivial⟩
  | inr q => exact hE
theorem cb_217_51 {X : Nat → Option zz_C} {h : zz_H} {t : cS} {s : mS} {d : Nat} {Q : zz_O → zz_H → Prop} {x0 : Nat} {x1 : Int32} {x3 : Int32} {x4 : Int32} {x5 : Int32} {y0 : Int32} (hR : kR h t s) (k : ∀ {h : zz_H}, kR h t s → zz_J zp_P zt_tf zt_fd X d zm_217 56 [(0, .ref x0), (1, .int x1), (2, .ref 42), (3, .int x3), (4, .int x4), (5, .int x5), (6, .int y0), (7, .int 0)] [] h Q) : zz_J zp_P zt_tf zt_fd X d zm_217 51 [(0, .ref x0), (1, .int x1), (2, .ref 42), (3, .int x3), (4, .int x4), (5, .int x5)] [.int y0] h Q := by
  refine zz_J.n 53 rfl rfl rfl ?_
  refine zz_J.c 54 (.int 0) rfl rfl rfl rfl ?_
  refine zz_J.n 56 rfl rfl rfl ?_
  exact zz_J.weak (k hR) rfl ⟨rfl, rfl, rfl, rfl, rfl, rfl, rfl, rfl, trivial⟩
theorem cb_217_56 {X : Nat → Option zz_C} {h : zz_H} {t : cS} {s : mS} {d : Nat} {Q : zz_O → zz_H → Prop} {x0 : Nat} {x1 : Int32} {x3 : Int32} {x4 : Int32} {x5 : Int32} {x6 : Int32} {x7 : Int32} (hR : kR h t s) (k1 : x6 ≤ x7 → (∀ {h : zz_H}, kR h t s → zz_J zp_P zt_tf zt_fd X d zm_217 97 [(2, .ref 42), (4, .int x4), (5, .int x5)] [] h Q)) (k2 : ¬ x6 ≤ x7 → (∀ {h : zz_H}, kR h t s → zz_J zp_P zt_tf zt_fd X d zm_217 63 [(0, .ref x0), (1, .int x1), (2, .ref 42), (3, .int x3), (4, .int x4), (5, .int x5), (6, .int x6), (7, .int x7)] [] h Q)) : zz_J zp_P zt_tf zt_fd X d zm_217 56 [(0, .ref x0), (1, .int x1), (2, .ref 42), (3, .int x3), (4, .int x4), (5, .int x5), (6, .int x6), (7, .int x7)] [] h Q := by
  refine zz_J.n 58 rfl rfl rfl ?_
  refine zz_J.n 60 rfl rfl rfl ?_
  refine zz_J.b2 97 63 (A := x6 ≤ x7) rfl rfl (by decide) rfl rfl (fun c => ?_) (fun c => ?_)
  · exact zz_J.weak (k1 c hR) rfl ⟨rfl, rfl, rfl, trivial⟩
  · exact zz_J.weak (k2 c hR) rfl ⟨rfl, rfl, rfl, rfl, rfl, rfl, rfl, rfl, trivial⟩
theorem cb_217_63 {X : Nat → Option zz_C} {h : zz_H} {t : cS} {s : mS} {d : Nat} {Q : zz_O → zz_H → Prop} {x0 : Nat} {x1 : Int32} {x3 : Int32} {x4 : Int32} {x5 : Int32} {x6 : Int32} {x7 : Int32} (hR : kR h t s) (k1 : ¬ x4 = 2 → (∀ {h : zz_H}, kR h t s → zz_J zp_P zt_tf zt_fd X d zm_217 79 [(0, .ref x0), (1, .int x1), (2, .ref 42), (3, .int x3), (4, .int x4), (5, .int x5), (6, .int x6), (7, .int x7)] [.ref 42] h Q)) (k2 : ¬ ¬ x4 = 2 → (∀ {h : zz_H}, kR h t s → zz_J zp_P zt_tf zt_fd X d zm_217 70 [(0, .ref x0), (1, .int x1), (2, .ref 42), (3, .int x3), (4, .int x4), (5, .int x5), (6, .int x6), (7, .int x7)] [.ref 42] h Q)) : zz_J zp_P zt_tf zt_fd X d zm_217 63 [(0, .ref x0), (1, .int x1), (2, .ref 42), (3, .int x3), (4, .int x4), (5, .int x5), (6, .int x6), (7, .int x7)] [] h Q := by
  refine zz_J.n 64 rfl rfl rfl ?_
  refine zz_J.n 66 rfl rfl rfl ?_
  refine zz_J.c 67 (.int 2) rfl rfl rfl rfl ?_
  refine zz_J.b2 79 70 (A := ¬ x4 = 2) rfl (zz_cond_ne _ _) (by decide) rfl rfl (fun c => ?_) (fun c => ?_)
  · exact zz_J.weak (k1 c hR) rfl ⟨rfl, rfl, rfl, rfl, rfl, rfl, rfl, rfl, trivial⟩
  · exact zz_J.weak (k2 c hR) rfl ⟨rfl, rfl, rfl, rfl, rfl, rfl, rfl, rfl, trivial⟩
theorem cb_217_70 {X : Nat → Option zz_C} {h : zz_H} {t : cS} {s : mS} {d : Nat} {Q : zz_O → zz_H → Prop} {x0 : Nat} {x1 : Int32} {x3 : Int32} {x4 : Int32} {x5 : Int32} {x6 : Int32} {x7 : Int32} (hR : kR h t s) (e0 : kH t x0 = true) (k : ∀ {h : zz_H}, kR h t s → zz_J zp_P zt_tf zt_fd X d zm_218 0 [(0, .ref x0), (1, .int x1), (2, .ref 42)] [] h (zz_after 7 Q (fun v h' => zz_J zp_P zt_tf zt_fd X (d + 1) zm_217 76 [(0, .ref x0), (1, .int x1), (2, .ref 42), (3, .int x3), (4, .int x4), (5, .int x5), (6, .int x6), (7, .int x7)] (v.toList ++ [.ref 42]) h' Q))) : zz_J zp_P zt_tf zt_fd X (d + 1) zm_217 70 [(0, .ref x0), (1, .int x1), (2, .ref 42), (3, .int x3), (4, .int x4), (5, .int x5), (6, .int x6), (7, .int x7)] [.ref 42] h Q := by
  refine zz_J.n 71 rfl rfl rfl ?_
  refine zz_J.n 72 rfl rfl rfl ?_
  refine zz_J.n 73 rfl rfl rfl ?_
  refine zz_J.cv 76 (as := [.ref 42]) rfl rfl (hR.clS e0 (by decide)) (by decide) (Nat.le_of_ble_eq_true rfl) (Nat.le_of_ble_eq_true rfl) rfl (Nat.le_of_ble_eq_true rfl) rfl ?_
  refine zz_J.mono (k hR) ?_
  intro o h' hE
  cases o with
  | inl v => exact zz_J.weak hE rfl ⟨rfl, rfl, rfl, rfl, rfl, rfl, rfl, rfl, trivial⟩
  | inr q => exact hE
theorem cb_217_76 {X : Nat → Option zz_C} {h : zz_H} {t : cS} {s : mS} {d : Nat} {Q : zz_O → zz_H → Prop} {x0 : Nat} {x1 : Int32} {x3 : Int32} {x4 : Int32} {x5 : Int32} {x6 : Int32} {x7 : Int32} {y1 : Int64} (hR : kR h t s) (k : ∀ {h : zz_H}, kR h t s → zz_J zp_P zt_tf zt_fd X d zm_217 88 [(0, .ref x0), (1, .int x1), (2, .ref 42), (3, .int x3), (4, .int x4), (5, .int x5), (6, .int x6), (7, .int x7)] [.long y1, .ref 42] h Q) : zz_J zp_P zt_tf zt_fd X d zm_217 76 [(0, .ref x0), (1, .int x1), (2, .ref 42), (3, .int x3), (4, .int x4), (5, .int x5), (6, .int x6), (7, .int x7)] [.long y1, .ref 42] h Q := by
  refine zz_J.n 88 rfl rfl rfl ?_
  exact zz_J.weak (k hR) rfl ⟨rfl, rfl, rfl, rfl, rfl, rfl, rfl, rfl, trivial⟩
theorem cb_217_79 {X : Nat → Option zz_C} {h : zz_H} {t : cS} {s : mS} {d : Nat} {Q : zz_O → zz_H → Prop} {x0 : Nat} {x1 : Int32} {x3 : Int32} {x4 : Int32} {x5 : Int32} {x6 : Int32} {x7 : Int32} (hR : kR h t s) (e0 : kH t x0 = true) (k : ∀ {h : zz_H}, kR h t s → zz_J zp_P zt_tf zt_fd X d zm_217 0 [(0, .ref x0), (1, .int x1), (2, .ref 42), (3, .int (x3 + 1))] [] h (zz_after 7 Q (fun v h' => zz_J zp_P zt_tf zt_fd X (d + 1) zm_217 88 [(0, .ref x0), (1, .int x1), (2, .ref 42), (3, .int x3), (4, .int x4), (5, .int x5), (6, .int x6), (7, .int x7)] (v.toList ++ [.ref 42]) h' Q))) : zz_J zp_P zt_tf zt_fd X (d + 1) zm_217 79 [(0, .ref x0), (1, .int x1), (2, .ref 42), (3, .int x3), (4, .int x4), (5, .int x5), (6, .int x6), (7, .int x7)] [.ref 42] h Q := by
  refine zz_J.n 80 rfl rfl rfl ?_
  refine zz_J.n 81 rfl rfl rfl ?_
  refine zz_J.n 82 rfl rfl rfl ?_
  refine zz_J.n 83 rfl rfl rfl ?_
  refine zz_J.c 84 (.int 1) rfl rfl rfl rfl ?_
  refine zz_J.n 85 rfl rfl rfl ?_
  refine zz_J.cv 88 (as := [.ref 42]) rfl rfl (hR.clS e0 (by decide)) (by decide) (Nat.le_of_ble_eq_true rfl) (Nat.le_of_ble_eq_true rfl) rfl (Nat.le_of_ble_eq_true rfl) rfl ?_
  refine zz_J.mono (k hR) ?_
  intro o h' hE
  cases o with
  | inl v => exact zz_J.weak hE rfl ⟨rfl, rfl, rfl, rfl, rfl, rfl, rfl, rfl, trivial⟩
  | inr q => exact hE
theorem cb_217_88 {X : Nat → Option zz_C} {h : zz_H} {t : cS} {s : mS} {d : Nat} {Q : zz_O → zz_H → Prop} {x0 : Nat} {x1 : Int32} {x3 : Int32} {x4 : Int32} {x5 : Int32} {x6 : Int32} {x7 : Int32} {y1 : Int64} (hR : kR h t s) (k : ∀ {h : zz_H}, kR h t s → zz_J zp_P zt_tf zt_fd X d zm_123 0 [(0, .ref 42), (1, .long y1)] [] h (zz_after 2 Q (fun v h' => zz_J zp_P zt_tf zt_fd X (d + 1) zm_217 91 [(0, .ref x0), (1, .int x1), (2, .ref 42), (3, .int x3), (4, .int x4), (5, .int x5), (6, .int x6), (7, .int x7)] (v.toList ++ []) h' Q))) : zz_J zp_P zt_tf zt_fd X (d + 1) zm_217 88 [(0, .ref x0), (1, .int x1), (2, .ref 42), (3, .int x3), (4, .int x4), (5, .int x5), (6, .int x6), (7, .int x7)] [.long y1, .ref 42] h Q := by
  refine zz_J.cv 91 (as := []) rfl rfl (hR.clO ko_42 (by decide) (by decide)) (by decide) (Nat.le_of_ble_eq_true rfl) (Nat.le_of_ble_eq_true rfl) rfl (Nat.le_of_ble_eq_true rfl) rfl ?_
  refine zz_J.mono (k hR) ?_
  intro o h' hE
  cases o with
  | inl v => exact zz_J.weak hE rfl ⟨rfl, rfl, rfl, rfl, rfl, rfl, rfl, rfl, trivial⟩
  | inr q => exact hE
theorem cb_217_91 {X : Nat → Option zz_C} {h : zz_H} {t : cS} {s : mS} {d : Nat} {Q : zz_O → zz_H → Prop} {x0 : Nat} {x1 : Int32} {x3 : Int32} {x4 : Int32} {x5 : Int32} {x6 : Int32} {x7 : Int32} (hR : kR h t s) (k : ∀ {h : zz_H}, kR h t s → zz_J zp_P zt_tf zt_fd X d zm_217 56 [(0, .ref x0), (1, .int x1), (2, .ref 42), (3, .int x3), (4, .int x4), (5, .int x5), (6, .int x6), (7, .int (x7 + 1))] [] h Q) : zz_J zp_P zt_tf zt_fd X d zm_217 91 [(0, .ref x0), (1, .int x1), (2, .ref 42), (3, .int x3), (4, .int x4), (5, .int x5), (6, .int x6), (7, .int x7)] [] h Q := by
  refine zz_J.n 94 rfl rfl rfl ?_
  refine zz_J.n 56 rfl rfl rfl ?_
  exact zz_J.weak (k hR) rfl ⟨rfl, rfl, rfl, rfl, rfl, rfl, rfl, rfl, trivial⟩
theorem cb_217_97 {X : Nat → Option zz_C} {h : zz_H} {t : cS} {s : mS} {d : Nat} {Q : zz_O → zz_H → Prop} {x4 : Int32} {x5 : Int32} (hR : kR h t s) (k : ∀ {h : zz_H}, kR h t s → zz_J zp_P zt_tf zt_fd X d zm_126 0 [(0, .ref 42), (1, .int x4), (2, .int x5)] [] h (zz_after 2 Q (fun v h' => zz_J zp_P zt_tf zt_fd X (d + 1) zm_217 105 [] (v.toList ++ []) h' Q))) : zz_J zp_P zt_tf zt_fd X (d + 1) zm_217 97 [(2, .ref 42), (4, .int x4), (5, .int x5)] [] h Q := by
  refine zz_J.n 98 rfl rfl rfl ?_
  refine zz_J.n 100 rfl rfl rfl ?_
  refine zz_J.n 102 rfl rfl rfl ?_
  refine zz_J.cv 105 (as := []) rfl rfl (hR.clO ko_42 (by decide) (by decide)) (by decide) (Nat.le_of_ble_eq_true rfl) (Nat.le_of_ble_eq_true rfl) rfl (Nat.le_of_ble_eq_true rfl) rfl ?_
  refine zz_J.mono (k hR) ?_
  intro o h' hE
  cases o with
  | inl v => exact zz_J.weak hE rfl trivial
  | inr q => exact hE
theorem cb_217_105 {X : Nat → Option zz_C} {h : zz_H} {t : cS} {s : mS} {d : Nat} {Q : zz_O → zz_H → Prop} {y0 : Int64} (hR : kR h t s) (k : ∀ {h : zz_H}, kR h t s → Q (.inl (some (.long y0))) h) : zz_J zp_P zt_tf zt_fd X d zm_217 105 [] [.long y0] h Q := by
  refine zz_J.ret rfl rfl rfl ?_
  exact k hR
def cf_217_26 (N : Nat) (X : Nat → Option zz_C) (rk : Nat → List Value → cS → kO) (y0 : Int64) (t : cS) : kO := some (t, .inl (some (.long y0)))
theorem cr_217_26 {X : Nat → Option zz_C} {s : mS} {N : Nat} {rk : Nat → List Value → cS → kO} {D : Nat} (hrk : cK4 X s D rk) (hB : 11 ≤ D) {d : Nat} (hd : D + 1 ≤ d) {Q : zz_O → zz_H → Prop} {y0 : Int64} {h : zz_H} {t t' : cS} {o : kY} (hR : kR h t s) (hf : cf_217_26 N X rk y0 t = some (t', o)) (k : (∀ h', kR h' t' s → kE o Q h')) : zz_J zp_P zt_tf zt_fd X d zm_217 26 [] [.long y0] h Q := by
  unfold cf_217_26 at hf
  cases hf
  exact cb_217_26 hR  (fun {h} hR => k h hR)
def cf_217_23 (N : Nat) (X : Nat → Option zz_C) (rk : Nat → List Value → cS → kO) (y0 : Int32) (y1 : Int32) (t : cS) : kO := ko_call 1000 (cf_253 N X y0 y1 t) (fun g1 v1 => co_l v1 (fun y => cf_217_26 N X rk y g1))
theorem cr_217_23 {X : Nat → Option zz_C} {s : mS} {N : Nat} {rk : Nat → List Value → cS → kO} {D : Nat} (hrk : cK4 X s D rk) (hB : 11 ≤ D) {d : Nat} (hd : D + 1 ≤ d) {Q : zz_O → zz_H → Prop} {y0 : Int32} {y1 : Int32} {h : zz_H} {t t' : cS} {o : kY} (hR : kR h t s) (hf : cf_217_23 N X rk y0 y1 t = some (t', o)) (k : (∀ h', kR h' t' s → kE o Q h')) : zz_J zp_P zt_tf zt_fd X d zm_217 23 [] [.int y1, .int y0] h Q := by
  unfold cf_217_23 at hf
  obtain ⟨d', rfl⟩ : ∃ d', d = d' + 1 := ⟨d - 1, by omega⟩
  refine cb_217_23 hR  (fun {h} hR => ?_)
  rcases ko_call_ok hf with ⟨g1, v1, er, hf⟩ | ⟨g1, er, hq⟩
  · obtain ⟨y, hv, hf2⟩ := co_l_ok hf
    clear hf
    have hf := hf2
    clear hf2
    subst hv
    refine cr_253 (by omega) hR er (fun h hR => ?_)
    exact cr_217_26 hrk hB hd hR hf k
  · refine cr_253 (by omega) hR er (fun h hR => ?_)
    exact ko_thrown hq hR k
def cf_217_17 (N : Nat) (X : Nat → Option zz_C) (rk : Nat → List Value → cS → kO) (x0 : Nat) (x1 : Int32) (t : cS) : kO := if kH t x0 = true then (ko_call 7 (cf_219 N X x0 x1 t) (fun g1 v1 => co_i v1 (fun y => cf_217_23 N X rk 0 y g1))) else none
theorem cr_217_17 {X : Nat → Option zz_C} {s : mS} {N : Nat} {rk : Nat → List Value → cS → kO} {D : Nat} (hrk : cK4 X s D rk) (hB : 11 ≤ D) {d : Nat} (hd : D + 1 ≤ d) {Q : zz_O → zz_H → Prop} {x0 : Nat} {x1 : Int32} {h : zz_H} {t t' : cS} {o : kY} (hR : kR h t s) (hf : cf_217_17 N X rk x0 x1 t = some (t', o)) (k : (∀ h', kR h' t' s → kE o Q h')) : zz_J zp_P zt_tf zt_fd X d zm_217 17 [(0, .ref x0), (1, .int x1)] [] h Q := by
  unfold cf_217_17 at hf
  obtain ⟨e0, hf⟩ := ko_if hf
  obtain ⟨d', rfl⟩ : ∃ d', d = d' + 1 := ⟨d - 1, by omega⟩
  refine cb_217_17 hR e0 (fun {h} hR => ?_)
  rcases ko_call_ok hf with ⟨g1, v1, er, hf⟩ | ⟨g1, er, hq⟩
  · obtain ⟨y, hv, hf2⟩ := co_i_ok hf
    clear hf
    have hf := hf2
    clear hf2
    subst hv
    refine cr_219 (by omega) hR er (fun h hR => ?_)
    exact cr_217_23 hrk hB hd hR hf k
  · refine cr_219 (by omega) hR er (fun h hR => ?_)
    exact ko_thrown hq hR k
def cf_217_105 (N : Nat) (X : Nat → Option zz_C) (rk : Nat → List Value → cS → kO) (y0 : Int64) (t : cS) : kO := some (t, .inl (some (.long y0)))
theorem cr_217_105 {X : Nat → Option zz_C} {s : mS} {N : Nat} {rk : Nat → List Value → cS → kO} {D : Nat} (hrk : cK4 X s D rk) (hB : 11 ≤ D) {d : Nat} (hd : D + 1 ≤ d) {Q : zz_O → zz_H → Prop} {y0 : Int64} {h : zz_H} {t t' : cS} {o : kY} (hR : kR h t s) (hf : cf_217_105 N X rk y0 t = some (t', o)) (k : (∀ h', kR h' t' s → kE o Q h')) : zz_J zp_P zt_tf zt_fd X d zm_217 105 [] [.long y0] h Q := by
  unfold cf_217_105 at hf
  cases hf
  exact cb_217_105 hR  (fun {h} hR => k h hR)
def cf_217_97 (N : Nat) (X : Nat → Option zz_C) (rk : Nat → List Value → cS → kO) (x4 : Int32) (x5 : Int32) (t : cS) : kO := ko_call 2 (cf_126 N X x4 x5 t) (fun g1 v1 => co_l v1 (fun y => cf_217_105 N X rk y g1))
theorem cr_217_97 {X : Nat → Option zz_C} {s : mS} {N : Nat} {rk : Nat → List Value → cS → kO} {D : Nat} (hrk : cK4 X s D rk) (hB : 11 ≤ D) {d : Nat} (hd : D + 1 ≤ d) {Q : zz_O → zz_H → Prop} {x4 : Int32} {x5 : Int32} {h : zz_H} {t t' : cS} {o : kY} (hR : kR h t s) (hf : cf_217_97 N X rk x4 x5 t = some (t', o)) (k : (∀ h', kR h' t' s → kE o Q h')) : zz_J zp_P zt_tf zt_fd X d zm_217 97 [(2, .ref 42), (4, .int x4), (5, .int x5)] [] h Q := by
  unfold cf_217_97 at hf
  obtain ⟨d', rfl⟩ : ∃ d', d = d' + 1 := ⟨d - 1, by omega⟩
  refine cb_217_97 hR  (fun {h} hR => ?_)
  rcases ko_call_ok hf with ⟨g1, v1, er, hf⟩ | ⟨g1, er, hq⟩
  · obtain ⟨y, hv, hf2⟩ := co_l_ok hf
    clear hf
    have hf := hf2
    clear hf2
    subst hv
    refine cr_126 (by omega) hR er (fun h hR => ?_)
    exact cr_217_105 hrk hB hd hR hf k
  · refine cr_126 (by omega) hR er (fun h hR => ?_)
    exact ko_thrown hq hR k
def cf_217_91 (N : Nat) (X : Nat → Option zz_C) (rk : Nat → List Value → cS → kO) (rc : Nat → Nat → Int32 → Int32 → Int32 → Int32 → Int32 → Int32 → cS → kO) (x0 : Nat) (x1 : Int32) (x3 : Int32) (x4 : Int32) (x5 : Int32) (x6 : Int32) (x7 : Int32) (t : cS) : kO := rc 0 x0 x1 x3 x4 x5 x6 (x7 + 1) t
theorem cr_217_91 {X : Nat → Option zz_C} {s : mS} {N : Nat} {rk : Nat → List Value → cS → kO} {D : Nat} (hrk : cK4 X s D rk) (hB : 11 ≤ D) {d : Nat} (hd : D + 1 ≤ d) {rc : Nat → Nat → Int32 → Int32 → Int32 → Int32 → Int32 → Int32 → cS → kO} (hrc0 : ∀ {Q : zz_O → zz_H → Prop} {x0 : Nat} {x1 : Int32} {x3 : Int32} {x4 : Int32} {x5 : Int32} {x6 : Int32} {x7 : Int32} {h : zz_H} {t t' : cS} {o : kY}, kR h t s → rc 0 x0 x1 x3 x4 x5 x6 x7 t = some (t', o) → (∀ h', kR h' t' s → kE o Q h') → zz_J zp_P zt_tf zt_fd X d zm_217 56 [(0, .ref x0), (1, .int x1), (2, .ref 42), (3, .int x3), (4, .int x4), (5, .int x5), (6, .int x6), (7, .int x7)] [] h Q) {Q : zz_O → zz_H → Prop} {x0 : Nat} {x1 : Int32} {x3 : Int32} {x4 : Int32} {x5 : Int32} {x6 : Int32} {x7 : Int32} {h : zz_H} {t t' : cS} {o : kY} (hR : kR h t s) (hf : cf_217_91 N X rk rc x0 x1 x3 x4 x5 x6 x7 t = some (t', o)) (k : (∀ h', kR h' t' s → kE o Q h')) : zz_J zp_P zt_tf zt_fd X d zm_217 91 [(0, .ref x0), (1, .int x1), (2, .ref 42), (3, .int x3), (4, .int x4), (5, .int x5), (6, .int x6), (7, .int x7)] [] h Q := by
  unfold cf_217_91 at hf
  exact cb_217_91 hR  (fun hR => hrc0 hR hf k)
def cf_217_88 (N : Nat) (X : Nat → Option zz_C) (rk : Nat → List Value → cS → kO) (rc : Nat → Nat → Int32 → Int32 → Int32 → Int32 → Int32 → Int32 → cS → kO) (x0 : Nat) (x1 : Int32) (x3 : Int32) (x4 : Int32) (x5 : Int32) (x6 : Int32) (x7 : Int32) (y1 : Int64) (t : cS) : kO := ko_call 2 (cf_123 N X y1 t) (fun g1 v1 => co_v v1 (cf_217_91 N X rk rc x0 x1 x3 x4 x5 x6 x7 g1))
theorem cr_217_88 {X : Nat → Option zz_C} {s : mS} {N : Nat} {rk : Nat → List Value → cS → kO} {D : Nat} (hrk : cK4 X s D rk) (hB : 11 ≤ D) {d : Nat} (hd : D + 1 ≤ d) {rc : Nat → Nat → Int32 → Int32 → Int32 → Int32 → Int32 → Int32 → cS → kO} (hrc0 : ∀ {Q : zz_O → zz_H → Prop} {x0 : Nat} {x1 : Int32} {x3 : Int32} {x4 : Int32} {x5 : Int32} {x6 : Int32} {x7 : Int32} {h : zz_H} {t t' : cS} {o : kY}, kR h t s → rc 0 x0 x1 x3 x4 x5 x6 x7 t = some (t', o) → (∀ h', kR h' t' s → kE o Q h') → zz_J zp_P zt_tf zt_fd X d zm_217 56 [(0, .ref x0), (1, .int x1), (2, .ref 42), (3, .int x3), (4, .int x4), (5, .int x5), (6, .int x6), (7, .int x7)] [] h Q) {Q : zz_O → zz_H → Prop} {x0 : Nat} {x1 : Int32} {x3 : Int32} {x4 : Int32} {x5 : Int32} {x6 : Int32} {x7 : Int32} {y1 : Int64} {h : zz_H} {t t' : cS} {o : kY} (hR : kR h t s) (hf : cf_217_88 N X rk rc x0 x1 x3 x4 x5 x6 x7 y1 t = some (t', o)) (k : (∀ h', kR h' t' s → kE o Q h')) : zz_J zp_P zt_tf zt_fd X d zm_217 88 [(0, .ref x0), (1, .int x1), (2, .ref 42), (3, .int x3), (4, .int x4), (5, .int x5), (6, .int x6), (7, .int x7)] [.long y1, .ref 42] h Q := by
  unfold cf_217_88 at hf
  obtain ⟨d', rfl⟩ : ∃ d', d = d' + 1 := ⟨d - 1, by omega⟩
  refine cb_217_88 hR  (fun {h} hR => ?_)
  rcases ko_call_ok hf with ⟨g1, v1, er, hf⟩ | ⟨g1, er, hq⟩
  · obtain ⟨hv, hf2⟩ := co_v_ok hf
    clear hf
    have hf := hf2
    clear hf2
    subst hv
    refine cr_123 (by omega) hR er (fun h hR => ?_)
    exact cr_217_91 hrk hB hd hrc0 hR hf k
  · refine cr_123 (by omega) hR er (fun h hR => ?_)
    exact ko_thrown hq hR k
def cf_217_76 (N : Nat) (X : Nat → Option zz_C) (rk : Nat → List Value → cS → kO) (rc : Nat → Nat → Int32 → Int32 → Int32 → Int32 → Int32 → Int32 → cS → kO) (x0 : Nat) (x1 : Int32) (x3 : Int32) (x4 : Int32) (x5 : Int32) (x6 : Int32) (x7 : Int32) (y1 : Int64) (t : cS) : kO := cf_217_88 N X rk rc x0 x1 x3 x4 x5 x6 x7 y1 t
theorem cr_217_76 {X : Nat → Option zz_C} {s : mS} {N : Nat} {rk : Nat → List Value → cS → kO} {D : Nat} (hrk : cK4 X s D rk) (hB : 11 ≤ D) {d : Nat} (hd : D + 1 ≤ d) {rc : Nat → Nat → Int32 → Int32 → Int32 → Int32 → Int32 → Int32 → cS → kO} (hrc0 : ∀ {Q : zz_O → zz_H → Prop} {x0 : Nat} {x1 : Int32} {x3 : Int32} {x4 : Int32} {x5 : Int32} {x6 : Int32} {x7 : Int32} {h : zz_H} {t t' : cS} {o : kY}, kR h t s → rc 0 x0 x1 x3 x4 x5 x6 x7 t = some (t', o) → (∀ h', kR h' t' s → kE o Q h') → zz_J zp_P zt_tf zt_fd X d zm_217 56 [(0, .ref x0), (1, .int x1), (2, .ref 42), (3, .int x3), (4, .int x4), (5, .int x5), (6, .int x6), (7, .int x7)] [] h Q) {Q : zz_O → zz_H → Prop} {x0 : Nat} {x1 : Int32} {x3 : Int32} {x4 : Int32} {x5 : Int32} {x6 : Int32} {x7 : Int32} {y1 : Int64} {h : zz_H} {t t' : cS} {o : kY} (hR : kR h t s) (hf : cf_217_76 N X rk rc x0 x1 x3 x4 x5 x6 x7 y1 t = some (t', o)) (k : (∀ h', kR h' t' s → kE o Q h')) : zz_J zp_P zt_tf zt_fd X d zm_217 76 [(0, .ref x0), (1, .int x1), (2, .ref 42), (3, .int x3), (4, .int x4), (5, .int x5), (6, .int x6), (7, .int x7)] [.long y1, .ref 42] h Q := by
  unfold cf_217_76 at hf
  exact cb_217_76 hR  (fun hR => cr_217_88 hrk hB hd hrc0 hR hf k)
def cf_217_70 (N : Nat) (X : Nat → Option zz_C) (rk : Nat → List Value → cS → kO) (rc : Nat → Nat → Int32 → Int32 → Int32 → Int32 → Int32 → Int32 → cS → kO) (x0 : Nat) (x1 : Int32) (x3 : Int32) (x4 : Int32) (x5 : Int32) (x6 : Int32) (x7 : Int32) (t : cS) : kO := if kH t x0 = true then (ko_call 7 (cf_218 N X x0 x1 t) (fun g1 v1 => co_l v1 (fun y => cf_217_76 N X rk rc x0 x1 x3 x4 x5 x6 x7 y g1))) else none
theorem cr_217_70 {X : Nat → Option zz_C} {s : mS} {N : Nat} {rk : Nat → List Value → cS → kO} {D : Nat} (hrk : cK4 X s D rk) (hB : 11 ≤ D) {d : Nat} (hd : D + 1 ≤ d) {rc : Nat → Nat → Int32 → Int32 → Int32 → Int32 → Int32 → Int32 → cS → kO} (hrc0 : ∀ {Q : zz_O → zz_H → Prop} {x0 : Nat} {x1 : Int32} {x3 : Int32} {x4 : Int32} {x5 : Int32} {x6 : Int32} {x7 : Int32} {h : zz_H} {t t' : cS} {o : kY}, kR h t s → rc 0 x0 x1 x3 x4 x5 x6 x7 t = some (t', o) → (∀ h', kR h' t' s → kE o Q h') → zz_J zp_P zt_tf zt_fd X d zm_217 56 [(0, .ref x0), (1, .int x1), (2, .ref 42), (3, .int x3), (4, .int x4), (5, .int x5), (6, .int x6), (7, .int x7)] [] h Q) {Q : zz_O → zz_H → Prop} {x0 : Nat} {x1 : Int32} {x3 : Int32} {x4 : Int32} {x5 : Int32} {x6 : Int32} {x7 : Int32} {h : zz_H} {t t' : cS} {o : kY} (hR : kR h t s) (hf : cf_217_70 N X rk rc x0 x1 x3 x4 x5 x6 x7 t = some (t', o)) (k : (∀ h', kR h' t' s → kE o Q h')) : zz_J zp_P zt_tf zt_fd X d zm_217 70 [(0, .ref x0), (1, .int x1), (2, .ref 42), (3, .int x3), (4, .int x4), (5, .int x5), (6, .int x6), (7, .int x7)] [.ref 42] h Q := by
  unfold cf_217_70 at hf
  obtain ⟨e0, hf⟩ := ko_if hf
  obtain ⟨d', rfl⟩ : ∃ d', d = d' + 1 := ⟨d - 1, by omega⟩
  refine cb_217_70 hR e0 (fun {h} hR => ?_)
  rcases ko_call_ok hf with ⟨g1, v1, er, hf⟩ | ⟨g1, er, hq⟩
  · obtain ⟨y, hv, hf2⟩ := co_l_ok hf
    clear hf
    have hf := hf2
    clear hf2
    subst hv
    refine cr_218 (by omega) hR er (fun h hR => ?_)
    exact cr_217_76 hrk hB hd hrc0 hR hf k
  · refine cr_218 (by omega) hR er (fun h hR => ?_)
    exact ko_thrown hq hR k
def cf_217_79 (N : Nat) (X : Nat → Option zz_C) (rk : Nat → List Value → cS → kO) (rc : Nat → Nat → Int32 → Int32 → Int32 → Int32 → Int32 → Int32 → cS → kO) (x0 : Nat) (x1 : Int32) (x3 : Int32) (x4 : Int32) (x5 : Int32) (x6 : Int32) (x7 : Int32) (t : cS) : kO := if kH t x0 = true then (ko_call 7 (rk 217 [.ref x0, .int x1, .int (x3 + 1)] t) (fun g1 v1 => co_l v1 (fun y => cf_217_88 N X rk rc x0 x1 x3 x4 x5 x6 x7 y g1))) else none
theorem cr_217_79 {X : Nat → Option zz_C} {s : mS} {N : Nat} {rk : Nat → List Value → cS → kO} {D : Nat} (hrk : cK4 X s D rk) (hB : 11 ≤ D) {d : Nat} (hd : D + 1 ≤ d) {rc : Nat → Nat → Int32 → Int32 → Int32 → Int32 → Int32 → Int32 → cS → kO} (hrc0 : ∀ {Q : zz_O → zz_H → Prop} {x0 : Nat} {x1 : Int32} {x3 : Int32} {x4 : Int32} {x5 : Int32} {x6 : Int32} {x7 : Int32} {h : zz_H} {t t' : cS} {o : kY}, kR h t s → rc 0 x0 x1 x3 x4 x5 x6 x7 t = some (t', o) → (∀ h', kR h' t' s → kE o Q h') → zz_J zp_P zt_tf zt_fd X d zm_217 56 [(0, .ref x0), (1, .int x1), (2, .ref 42), (3, .int x3), (4, .int x4), (5, .int x5), (6, .int x6), (7, .int x7)] [] h Q) {Q : zz_O → zz_H → Prop} {x0 : Nat} {x1 : Int32} {x3 : Int32} {x4 : Int32} {x5 : Int32} {x6 : Int32} {x7 : Int32} {h : zz_H} {t t' : cS} {o : kY} (hR : kR h t s) (hf : cf_217_79 N X rk rc x0 x1 x3 x4 x5 x6 x7 t = some (t', o)) (k : (∀ h', kR h' t' s → kE o Q h')) : zz_J zp_P zt_tf zt_fd X d zm_217 79 [(0, .ref x0), (1, .int x1), (2, .ref 42), (3, .int x3), (4, .int x4), (5, .int x5), (6, .int x6), (7, .int x7)] [.ref 42] h Q := by
  unfold cf_217_79 at hf
  obtain ⟨e0, hf⟩ := ko_if hf
  obtain ⟨d', rfl⟩ : ∃ d', d = d' + 1 := ⟨d - 1, by omega⟩
  refine cb_217_79 hR e0 (fun {h} hR => ?_)
  rcases ko_call_ok hf with ⟨g1, v1, er, hf⟩ | ⟨g1, er, hq⟩
  · obtain ⟨y, hv, hf2⟩ := co_l_ok hf
    clear hf
    have hf := hf2
    clear hf2
    subst hv
    refine hrk (by omega) hR er (fun h hR => ?_)
    exact cr_217_88 hrk hB hd hrc0 hR hf k
  · refine hrk (by omega) hR er (fun h hR => ?_)
    exact ko_thrown hq hR k
def cf_217_63 (N : Nat) (X : Nat → Option zz_C) (rk : Nat → List Value → cS → kO) (rc : Nat → Nat → Int32 → Int32 → Int32 → Int32 → Int32 → Int32 → cS → kO) (x0 : Nat) (x1 : Int32) (x3 : Int32) (x4 : Int32) (x5 : Int32) (x6 : Int32) (x7 : Int32) (t : cS) : kO := if ¬ x4 = 2 then cf_217_79 N X rk rc x0 x1 x3 x4 x5 x6 x7 t else cf_217_70 N X rk rc x0 x1 x3 x4 x5 x6 x7 t
theorem cr_217_63 {X : Nat → Option zz_C} {s : mS} {N : Nat} {rk : Nat → List Value → cS → kO} {D : Nat} (hrk : cK4 X s D rk) (hB : 11 ≤ D) {d : Nat} (hd : D + 1 ≤ d) {rc : Nat → Nat → Int32 → Int32 → Int32 → Int32 → Int32 → Int32 → cS → kO} (hrc0 : ∀ {Q : zz_O → zz_H → Prop} {x0 : Nat} {x1 : Int32} {x3 : Int32} {x4 : Int32} {x5 : Int32} {x6 : Int32} {x7 : Int32} {h : zz_H} {t t' : cS} {o : kY}, kR h t s → rc 0 x0 x1 x3 x4 x5 x6 x7 t = some (t', o) → (∀ h', kR h' t' s → kE o Q h') → zz_J zp_P zt_tf zt_fd X d zm_217 56 [(0, .ref x0), (1, .int x1), (2, .ref 42), (3, .int x3), (4, .int x4), (5, .int x5), (6, .int x6), (7, .int x7)] [] h Q) {Q : zz_O → zz_H → Prop} {x0 : Nat} {x1 : Int32} {x3 : Int32} {x4 : Int32} {x5 : Int32} {x6 : Int32} {x7 : Int32} {h : zz_H} {t t' : cS} {o : kY} (hR : kR h t s) (hf : cf_217_63 N X rk rc x0 x1 x3 x4 x5 x6 x7 t = some (t', o)) (k : (∀ h', kR h' t' s → kE o Q h')) : zz_J zp_P zt_tf zt_fd X d zm_217 63 [(0, .ref x0), (1, .int x1), (2, .ref 42), (3, .int x3), (4, .int x4), (5, .int x5), (6, .int x6), (7, .int x7)] [] h Q := by
  unfold cf_217_63 at hf
  refine cb_217_63 hR  (fun c {h} hR => ?_) (fun c {h} hR => ?_)
  · rw [if_pos c] at hf
    exact cr_217_79 hrk hB hd hrc0 hR hf k
  · rw [if_neg c] at hf
    exact cr_217_70 hrk hB hd hrc0 hR hf k
def cf_217_56 (N : Nat) (X : Nat → Option zz_C) (rk : Nat → List Value → cS → kO) (rc : Nat → Nat → Int32 → Int32 → Int32 → Int32 → Int32 → Int32 → cS → kO) (x0 : Nat) (x1 : Int32) (x3 : Int32) (x4 : Int32) (x5 : Int32) (x6 : Int32) (x7 : Int32) (t : cS) : kO := if x6 ≤ x7 then cf_217_97 N X rk x4 x5 t else cf_217_63 N X rk rc x0 x1 x3 x4 x5 x6 x7 t
theorem cr_217_56 {X : Nat → Option zz_C} {s : mS} {N : Nat} {rk : Nat → List Value → cS → kO} {D : Nat} (hrk : cK4 X s D rk) (hB : 11 ≤ D) {d : Nat} (hd : D + 1 ≤ d) {rc : Nat → Nat → Int32 → Int32 → Int32 → Int32 → Int32 → Int32 → cS → kO} (hrc0 : ∀ {Q : zz_O → zz_H → Prop} {x0 : Nat} {x1 : Int32} {x3 : Int32} {x4 : Int32} {x5 : Int32} {x6 : Int32} {x7 : Int32} {h : zz_H} {t t' : cS} {o : kY}, kR h t s → rc 0 x0 x1 x3 x4 x5 x6 x7 t = some (t', o) → (∀ h', kR h' t' s → kE o Q h') → zz_J zp_P zt_tf zt_fd X d zm_217 56 [(0, .ref x0), (1, .int x1), (2, .ref 42), (3, .int x3), (4, .int x4), (5, .int x5), (6, .int x6), (7, .int x7)] [] h Q) {Q : zz_O → zz_H → Prop} {x0 : Nat} {x1 : Int32} {x3 : Int32} {x4 : Int32} {x5 : Int32} {x6 : Int32} {x7 : Int32} {h : zz_H} {t t' : cS} {o : kY} (hR : kR h t s) (hf : cf_217_56 N X rk rc x0 x1 x3 x4 x5 x6 x7 t = some (t', o)) (k : (∀ h', kR h' t' s → kE o Q h')) : zz_J zp_P zt_tf zt_fd X d zm_217 56 [(0, .ref x0), (1, .int x1), (2, .ref 42), (3, .int x3), (4, .int x4), (5, .int x5), (6, .int x6), (7, .int x7)] [] h Q := by
  unfold cf_217_56 at hf
  refine cb_217_56 hR  (fun c {h} hR => ?_) (fun c {h} hR => ?_)
  · rw [if_pos c] at hf
    exact cr_217_97 hrk hB hd hR hf k
  · rw [if_neg c] at hf
    exact cr_217_63 hrk hB hd hrc0 hR hf k
def cf_217_L5 (N : Nat) (X : Nat → Option zz_C) (rk : Nat → List Value → cS → kO) : Nat → Nat → Nat → Int32 → Int32 → Int32 → Int32 → Int32 → Int32 → cS → kO
  | 0, _, _, _, _, _, _, _, _, _ => none
  | n + 1, l, x0, x1, x3, x4, x5, x6, x7, t => if l = 0 then cf_217_56 N X rk (cf_217_L5 N X rk n) x0 x1 x3 x4 x5 x6 x7 t else none
theorem cr_217_L5 {X : Nat → Option zz_C} {s : mS} {N : Nat} {rk : Nat → List Value → cS → kO} {D : Nat} (hrk : cK4 X s D rk) (hB : 11 ≤ D) {d : Nat} (hd : D + 1 ≤ d) : ∀ n : Nat, (∀ {Q : zz_O → zz_H → Prop} {x0 : Nat} {x1 : Int32} {x3 : Int32} {x4 : Int32} {x5 : Int32} {x6 : Int32} {x7 : Int32} {h : zz_H} {t t' : cS} {o : kY}, kR h t s → cf_217_L5 N X rk n 0 x0 x1 x3 x4 x5 x6 x7 t = some (t', o) → (∀ h', kR h' t' s → kE o Q h') → zz_J zp_P zt_tf zt_fd X d zm_217 56 [(0, .ref x0), (1, .int x1), (2, .ref 42), (3, .int x3), (4, .int x4), (5, .int x5), (6, .int x6), (7, .int x7)] [] h Q) := by
  intro n
  induction n with
  | zero => exact (fun _ hf _ => by cases hf)
  | succ n ih =>
    have h0 := @ih
    intro Q _ _ _ _ _ _ _ h t t' o hR hf k
    unfold cf_217_L5 at hf
    rw [if_pos rfl] at hf
    exact cr_217_56 hrk hB hd h0 hR hf k
def cf_217_51 (N : Nat) (X : Nat → Option zz_C) (rk : Nat → List Value → cS → kO) (x0 : Nat) (x1 : Int32) (x3 : Int32) (x4 : Int32) (x5 : Int32) (y0 : Int32) (t : cS) : kO := cf_217_L5 N X rk N 0 x0 x1 x3 x4 x5 y0 0 t
theorem cr_217_51 {X : Nat → Option zz_C} {s : mS} {N : Nat} {rk : Nat → List Value → cS → kO} {D : Nat} (hrk : cK4 X s D rk) (hB : 11 ≤ D) {d : Nat} (hd : D + 1 ≤ d) {Q : zz_O → zz_H → Prop} {x0 : Nat} {x1 : Int32} {x3 : Int32} {x4 : Int32} {x5 : Int32} {y0 : Int32} {h : zz_H} {t t' : cS} {o : kY} (hR : kR h t s) (hf : cf_217_51 N X rk x0 x1 x3 x4 x5 y0 t = some (t', o)) (k : (∀ h', kR h' t' s → kE o Q h')) : zz_J zp_P zt_tf zt_fd X d zm_217 51 [(0, .ref x0), (1, .int x1), (2, .ref 42), (3, .int x3), (4, .int x4), (5, .int x5)] [.int y0] h Q := by
  unfold cf_217_51 at hf
  exact cb_217_51 hR  (fun hR => cr_217_L5 hrk hB hd N hR hf k)
def cf_217_44 (N : Nat) (X : Nat → Option zz_C) (rk : Nat → List Value → cS → kO) (x0 : Nat) (x1 : Int32) (x3 : Int32) (x4 : Int32) (y0 : Int32) (t : cS) : kO := if kH t x0 = true then (ko_call 7 (cf_219 N X x0 x1 t) (fun g1 v1 => co_i v1 (fun y => cf_217_51 N X rk x0 x1 x3 x4 y0 y g1))) else none
theorem cr_217_44 {X : Nat → Option zz_C} {s : mS} {N : Nat} {rk : Nat → List Value → cS → kO} {D : Nat} (hrk : cK4 X s D rk) (hB : 11 ≤ D) {d : Nat} (hd : D + 1 ≤ d) {Q : zz_O → zz_H → Prop} {x0 : Nat} {x1 : Int32} {x3 : Int32} {x4 : Int32} {y0 : Int32} {h : zz_H} {t t' : cS} {o : kY} (hR : kR h t s) (hf : cf_217_44 N X rk x0 x1 x3 x4 y0 t = some (t', o)) (k : (∀ h', kR h' t' s → kE o Q h')) : zz_J zp_P zt_tf zt_fd X d zm_217 44 [(0, .ref x0), (1, .int x1), (2, .ref 42), (3, .int x3), (4, .int x4)] [.int y0] h Q := by
  unfold cf_217_44 at hf
  obtain ⟨e0, hf⟩ := ko_if hf
  obtain ⟨d', rfl⟩ : ∃ d', d = d' + 1 := ⟨d - 1, by omega⟩
  refine cb_217_44 hR e0 (fun {h} hR => ?_)
  rcases ko_call_ok hf with ⟨g1, v1, er, hf⟩ | ⟨g1, er, hq⟩
  · obtain ⟨y, hv, hf2⟩ := co_i_ok hf
    clear hf
    have hf := hf2
    clear hf2
    subst hv
    refine cr_219 (by omega) hR er (fun h hR => ?_)
    exact cr_217_51 hrk hB hd hR hf k
  · refine cr_219 (by omega) hR er (fun h hR => ?_)
    exact ko_thrown hq hR k
def cf_217_40 (N : Nat) (X : Nat → Option zz_C) (rk : Nat → List Value → cS → kO) (x0 : Nat) (x1 : Int32) (x3 : Int32) (x4 : Int32) (t : cS) : kO := ko_call 2 (cf_122 N X  t) (fun g1 v1 => co_i v1 (fun y => cf_217_44 N X rk x0 x1 x3 x4 y g1))
theorem cr_217_40 {X : Nat → Option zz_C} {s : mS} {N : Nat} {rk : Nat → List Value → cS → kO} {D : Nat} (hrk : cK4 X s D rk) (hB : 11 ≤ D) {d : Nat} (hd : D + 1 ≤ d) {Q : zz_O → zz_H → Prop} {x0 : Nat} {x1 : Int32} {x3 : Int32} {x4 : Int32} {h : zz_H} {t t' : cS} {o : kY} (hR : kR h t s) (hf : cf_217_40 N X rk x0 x1 x3 x4 t = some (t', o)) (k : (∀ h', kR h' t' s → kE o Q h')) : zz_J zp_P zt_tf zt_fd X d zm_217 40 [(0, .ref x0), (1, .int x1), (2, .ref 42), (3, .int x3), (4, .int x4)] [] h Q := by
  unfold cf_217_40 at hf
  obtain ⟨d', rfl⟩ : ∃ d', d = d' + 1 := ⟨d - 1, by omega⟩
  refine cb_217_40 hR  (fun {h} hR => ?_)
  rcases ko_call_ok hf with ⟨g1, v1, er, hf⟩ | ⟨g1, er, hq⟩
  · obtain ⟨y, hv, hf2⟩ := co_i_ok hf
    clear hf
    have hf := hf2
    clear hf2
    subst hv
    refine cr_122 (by omega) hR er (fun h hR => ?_)
    exact cr_217_44 hrk hB hd hR hf k
  · refine cr_122 (by omega) hR er (fun h hR => ?_)
    exact ko_thrown hq hR k
def cf_217_39 (N : Nat) (X : Nat → Option zz_C) (rk : Nat → List Value → cS → kO) (y0 : Int64) (t : cS) : kO := some (t, .inl (some (.long y0)))
theorem cr_217_39 {X : Nat → Option zz_C} {s : mS} {N : Nat} {rk : Nat → List Value → cS → kO} {D : Nat} (hrk : cK4 X s D rk) (hB : 11 ≤ D) {d : Nat} (hd : D + 1 ≤ d) {Q : zz_O → zz_H → Prop} {y0 : Int64} {h : zz_H} {t t' : cS} {o : kY} (hR : kR h t s) (hf : cf_217_39 N X rk y0 t = some (t', o)) (k : (∀ h', kR h' t' s → kE o Q h')) : zz_J zp_P zt_tf zt_fd X d zm_217 39 [] [.long y0] h Q := by
  unfold cf_217_39 at hf
  cases hf
  exact cb_217_39 hR  (fun {h} hR => k h hR)
def cf_217_33 (N : Nat) (X : Nat → Option zz_C) (rk : Nat → List Value → cS → kO) (x0 : Nat) (x1 : Int32) (t : cS) : kO := if kH t x0 = true then (ko_call 7 (cf_218 N X x0 x1 t) (fun g1 v1 => co_l v1 (fun y => cf_217_39 N X rk y g1))) else none
theorem cr_217_33 {X : Nat → Option zz_C} {s : mS} {N : Nat} {rk : Nat → List Value → cS → kO} {D : Nat} (hrk : cK4 X s D rk) (hB : 11 ≤ D) {d : Nat} (hd : D + 1 ≤ d) {Q : zz_O → zz_H → Prop} {x0 : Nat} {x1 : Int32} {h : zz_H} {t t' : cS} {o : kY} (hR : kR h t s) (hf : cf_217_33 N X rk x0 x1 t = some (t', o)) (k : (∀ h', kR h' t' s → kE o Q h')) : zz_J zp_P zt_tf zt_fd X d zm_217 33 [(0, .ref x0), (1, .int x1), (2, .ref 42)] [] h Q := by
  unfold cf_217_33 at hf
  obtain ⟨e0, hf⟩ := ko_if hf
  obtain ⟨d', rfl⟩ : ∃ d', d = d' + 1 := ⟨d - 1, by omega⟩
  refine cb_217_33 hR e0 (fun {h} hR => ?_)
  rcases ko_call_ok hf with ⟨g1, v1, er, hf⟩ | ⟨g1, er, hq⟩
  · obtain ⟨y, hv, hf2⟩ := co_l_ok hf
    clear hf
    have hf := hf2
    clear hf2
    subst hv
    refine cr_218 (by omega) hR er (fun h hR => ?_)
    exact cr_217_39 hrk hB hd hR hf k
  · refine cr_218 (by omega) hR er (fun h hR => ?_)
    exact ko_thrown hq hR k
def cf_217_27 (N : Nat) (X : Nat → Option zz_C) (rk : Nat → List Value → cS → kO) (x0 : Nat) (x1 : Int32) (x3 : Int32) (x4 : Int32) (t : cS) : kO := if ¬ x4 = 1 then cf_217_40 N X rk x0 x1 x3 x4 t else cf_217_33 N X rk x0 x1 t
theorem cr_217_27 {X : Nat → Option zz_C} {s : mS} {N : Nat} {rk : Nat → List Value → cS → kO} {D : Nat} (hrk : cK4 X s D rk) (hB : 11 ≤ D) {d : Nat} (hd : D + 1 ≤ d) {Q : zz_O → zz_H → Prop} {x0 : Nat} {x1 : Int32} {x3 : Int32} {x4 : Int32} {h : zz_H} {t t' : cS} {o : kY} (hR : kR h t s) (hf : cf_217_27 N X rk x0 x1 x3 x4 t = some (t', o)) (k : (∀ h', kR h' t' s → kE o Q h')) : zz_J zp_P zt_tf zt_fd X d zm_217 27 [(0, .ref x0), (1, .int x1), (2, .ref 42), (3, .int x3), (4, .int x4)] [] h Q := by
  unfold cf_217_27 at hf
  refine cb_217_27 hR  (fun c {h} hR => ?_) (fun c {h} hR => ?_)
  · rw [if_pos c] at hf
    exact cr_217_40 hrk hB hd hR hf k
  · rw [if_neg c] at hf
    exact cr_217_33 hrk hB hd hR hf k
def cf_217_12 (N : Nat) (X : Nat → Option zz_C) (rk : Nat → List Value → cS → kO) (x0 : Nat) (x1 : Int32) (x3 : Int32) (x4 : Int32) (t : cS) : kO := if x3 ≤ 4 then cf_217_27 N X rk x0 x1 x3 x4 t else cf_217_17 N X rk x0 x1 t
theorem cr_217_12 {X : Nat → Option zz_C} {s : mS} {N : Nat} {rk : Nat → List Value → cS → kO} {D : Nat} (hrk : cK4 X s D rk) (hB : 11 ≤ D) {d : Nat} (hd : D + 1 ≤ d) {Q : zz_O → zz_H → Prop} {x0 : Nat} {x1 : Int32} {x3 : Int32} {x4 : Int32} {h : zz_H} {t t' : cS} {o : kY} (hR : kR h t s) (hf : cf_217_12 N X rk x0 x1 x3 x4 t = some (t', o)) (k : (∀ h', kR h' t' s → kE o Q h')) : zz_J zp_P zt_tf zt_fd X d zm_217 12 [(0, .ref x0), (1, .int x1), (2, .ref 42), (3, .int x3), (4, .int x4)] [] h Q := by
  unfold cf_217_12 at hf
  refine cb_217_12 hR  (fun c {h} hR => ?_) (fun c {h} hR => ?_)
  · rw [if_pos c] at hf
    exact cr_217_27 hrk hB hd hR hf k
  · rw [if_neg c] at hf
    exact cr_217_17 hrk hB hd hR hf k
def cf_217_5 (N : Nat) (X : Nat → Option zz_C) (rk : Nat → List Value → cS → kO) (x0 : Nat) (x1 : Int32) (x3 : Int32) (y0 : Int32) (t : cS) : kO := if y0 = 0 then cf_217_17 N X rk x0 x1 t else cf_217_12 N X rk x0 x1 x3 y0 t
theorem cr_217_5 {X : Nat → Option zz_C} {s : mS} {N : Nat} {rk : Nat → List Value → cS → kO} {D : Nat} (hrk : cK4 X s D rk) (hB : 11 ≤ D) {d : Nat} (hd : D + 1 ≤ d) {Q : zz_O → zz_H → Prop} {x0 : Nat} {x1 : Int32} {x3 : Int32} {y0 : Int32} {h : zz_H} {t t' : cS} {o : kY} (hR : kR h t s) (hf : cf_217_5 N X rk x0 x1 x3 y0 t = some (t', o)) (k : (∀ h', kR h' t' s → kE o Q h')) : zz_J zp_P zt_tf zt_fd X d zm_217 5 [(0, .ref x0), (1, .int x1), (2, .ref 42), (3, .int x3)] [.int y0] h Q := by
  unfold cf_217_5 at hf
  refine cb_217_5 hR  (fun c {h} hR => ?_) (fun c {h} hR => ?_)
  · rw [if_pos c] at hf
    exact cr_217_17 hrk hB hd hR hf k
  · rw [if_neg c] at hf
    exact cr_217_12 hrk hB hd hR hf k
def cf_217_0 (N : Nat) (X : Nat → Option zz_C) (rk : Nat → List Value → cS → kO) (x0 : Nat) (x1 : Int32) (x3 : Int32) (t : cS) : kO := if kH t x0 = true then (ko_call 7 (cf_219 N X x0 x1 t) (fun g1 v1 => co_i v1 (fun y => cf_217_5 N X rk x0 x1 x3 y g1))) else none
theorem cr_217_0 {X : Nat → Option zz_C} {s : mS} {N : Nat} {rk : Nat → List Value → cS → kO} {D : Nat} (hrk : cK4 X s D rk) (hB : 11 ≤ D) {d : Nat} (hd : D + 1 ≤ d) {Q : zz_O → zz_H → Prop} {x0 : Nat} {x1 : Int32} {x3 : Int32} {h : zz_H} {t t' : cS} {o : kY} (hR : kR h t s) (hf : cf_217_0 N X rk x0 x1 x3 t = some (t', o)) (k : (∀ h', kR h' t' s → kE o Q h')) : zz_J zp_P zt_tf zt_fd X d zm_217 0 [(0, .ref x0), (1, .int x1), (2, .ref 42), (3, .int x3)] [] h Q := by
  unfold cf_217_0 at hf
  obtain ⟨e0, hf⟩ := ko_if hf
  obtain ⟨d', rfl⟩ : ∃ d', d = d' + 1 := ⟨d - 1, by omega⟩
  refine cb_217_0 hR e0 (fun {h} hR => ?_)
  rcases ko_call_ok hf with ⟨g1, v1, er, hf⟩ | ⟨g1, er, hq⟩
  · obtain ⟨y, hv, hf2⟩ := co_i_ok hf
    clear hf
    have hf := hf2
    clear hf2
    subst hv
    refine cr_219 (by omega) hR er (fun h hR => ?_)
    exact cr_217_5 hrk hB hd hR hf k
  · refine cr_219 (by omega) hR er (fun h hR => ?_)
    exact ko_thrown hq hR k
/-- readThing -/
def cf_217 (N : Nat) (X : Nat → Option zz_C) (rk : Nat → List Value → cS → kO) (x0 : Nat) (x1 : Int32) (x3 : Int32) (t : cS) : kO := cf_217_0 N X rk x0 x1 x3 t
theorem cr_217 {X : Nat → Option zz_C} {s : mS} {N : Nat} {rk : Nat → List Value → cS → kO} {D : Nat} (hrk : cK4 X s D rk) (hB : 11 ≤ D) {d : Nat} (hd : D + 1 ≤ d) {Q : zz_O → zz_H → Prop} {x0 : Nat} {x1 : Int32} {x3 : Int32} {h : zz_H} {t t' : cS} {o : kY} (hR : kR h t s) (hf : cf_217 N X rk x0 x1 x3 t = some (t', o)) (k : ∀ h', kR h' t' s → kE o Q h') : zz_J zp_P zt_tf zt_fd X d zm_217 0 [(0, .ref x0), (1, .int x1), (2, .ref 42), (3, .int x3)] [] h Q := by
  unfold cf_217 at hf
  exact zz_J.weak (cr_217_0 hrk hB hd hR hf k) rfl ⟨rfl, rfl, rfl, rfl, trivial⟩
def cf_S4 (N : Nat) (X : Nat → Option zz_C) : Nat → Nat → List Value → cS → kO
  | 0, _, _, _ => none
  | n + 1, id, as, t => if id = 217 then (match as with
    | [.ref x0, .int x1, .int x3] => cf_217 N X (cf_S4 N X n) x0 x1 x3 t
    | _ => none) else none
theorem cr_S4 {X : Nat → Option zz_C} {s : mS} {N : Nat} : ∀ n : Nat, cK4 X s (11 + n) (cf_S4 N X n) := by
  intro n
  induction n with
  | zero =>
    intro d _ Q _ _ _ h t t' o _ hf _
    cases hf
  | succ n ih =>
    intro d hd Q _ _ _ h t t' o hR hf k
    unfold cf_S4 at hf
    rw [if_pos rfl] at hf
    exact cr_217 (D := 11 + n) ih (Nat.le_add_right _ _) (by omega) hR hf k
/-! yX7_read (ILTallySlate$Heap;)J -/
theorem cb_215_0 {X : Nat → Option zz_C} {h : zz_H} {t : cS} {s : mS} {d : Nat} {Q : zz_O → zz_H → Prop} {x0 : Nat} {x1 : Int32} (hR : kR h t s) (e0 : kH t x0 = true) (e1 : ¬ (x1 < 0 ∨ (kA t (2000000 + 20 * x0 + 10)).1 ≤ (Int32.toNatClampNeg x1))) (k1 : ¬ ((kA t (2000000 + 20 * x0 + 10)).2 (Int32.toNatClampNeg x1)) = 0 → (∀ {h : zz_H}, kR h t s → zz_J zp_P zt_tf zt_fd X d zm_215 15 [(0, .ref x0), (1, .int x1), (2, .ref 42)] [] h Q)) (k2 : ¬ ¬ ((kA t (2000000 + 20 * x0 + 10)).2 (Int32.toNatClampNeg x1)) = 0 → (∀ {h : zz_H}, kR h t s → zz_J zp_P zt_tf zt_fd X d zm_215 9 [] [] h Q)) : zz_J zp_P zt_tf zt_fd X d zm_215 0 [(0, .ref x0), (1, .int x1), (2, .ref 42)] [] h Q := by
  refine zz_J.n 1 rfl rfl rfl ?_
  refine zz_J.g 4 rfl (hR.gvS (v := .ref (kD t (2000000 + 20 * x0 + 10))) e0 rfl) rfl ?_
  refine zz_J.n 5 rfl rfl rfl ?_
  refine zz_J.ai 6 rfl (hR.ai (w := ((kA t (2000000 + 20 * x0 + 10)).2 (Int32.toNatClampNeg x1))) (ka_S10 e0) rfl e1 rfl) rfl ?_
  refine zz_J.b1 15 9 (A := ¬ ((kA t (2000000 + 20 * x0 + 10)).2 (Int32.toNatClampNeg x1)) = 0) rfl (zz_cond_ne _ _) (by decide) rfl rfl (fun c => ?_) (fun c => ?_)
  · exact zz_J.weak (k1 c hR) rfl ⟨rfl, rfl, rfl, trivial⟩
  · exact zz_J.weak (k2 c hR) rfl trivial
theorem cb_215_9 {X : Nat → Option zz_C} {h : zz_H} {t : cS} {s : mS} {d : Nat} {Q : zz_O → zz_H → Prop}  (hR : kR h t s) (k : ∀ {h : zz_H}, kR h t s → zz_J zp_P zt_tf zt_fd X d zm_253 0 [(0, .int (-1)), (1, .int 0)] [] h (zz_after 1000 Q (fun v h' => zz_J zp_P zt_tf zt_fd X (d + 1) zm_215 14 [] (v.toList ++ []) h' Q))) : zz_J zp_P zt_tf zt_fd X (d + 1) zm_215 9 [] [] h Q := by
  refine zz_J.c 10 (.int (-1)) rfl rfl rfl rfl ?_
  refine zz_J.c 11 (.int 0) rfl rfl rfl rfl ?_
  refine zz_J.cl (M' := zm_253) 14 rfl rfl (by decide) rfl rfl ⟨rfl, Nat.le_of_ble_eq_true rfl⟩ rfl ?_
  refine zz_J.mono (k hR) ?_
  intro o h' hE
  cases o with
  | inl v => exact zz_J.weak hE rfl trivial
  | inr q => exact hE
theorem cb_215_14 {X : Nat → Option zz_C} {h : zz_H} {t : cS} {s : mS} {d : Nat} {Q : zz_O → zz_H → Prop} {y0 : Int64} (hR : kR h t s) (k : ∀ {h : zz_H}, kR h t s → Q (.inl (some (.long y0))) h) : zz_J zp_P zt_tf zt_fd X d zm_215 14 [] [.long y0] h Q := by
  refine zz_J.ret rfl rfl rfl ?_
  exact k hR
theorem cb_215_15 {X : Nat → Option zz_C} {h : zz_H} {t : cS} {s : mS} {d : Nat} {Q : zz_O → zz_H → Prop} {x0 : Nat} {x1 : Int32} (hR : kR h t s) (e0 : kH t x0 = true) (k : ∀ {h : zz_H}, kR h (jI t (3000000 + x0) 2 0) s → zz_J zp_P zt_tf zt_fd X d zm_217 0 [(0, .ref x0), (1, .int x1), (2, .ref 42), (3, .int 0)] [] h (zz_after 7 Q (fun v h' => zz_J zp_P zt_tf zt_fd X (d + 1) zm_215 27 [] (v.toList ++ []) h' Q))) : zz_J zp_P zt_tf zt_fd X (d + 1) zm_215 15 [(0, .ref x0), (1, .int x1), (2, .ref 42)] [] h Q := by
  refine zz_J.n 16 rfl rfl rfl ?_
  refine zz_J.c 17 (.int 0) rfl rfl rfl rfl ?_
  obtain ⟨h1, eq1, hR⟩ := hR.pS (x := 0) e0
  refine zz_J.pv 20 rfl eq1 rfl ?_
  clear eq1
  refine zz_J.n 21 rfl rfl rfl ?_
  refine zz_J.n 22 rfl rfl rfl ?_
  refine zz_J.n 23 rfl rfl rfl ?_
  refine zz_J.c 24 (.int 0) rfl rfl rfl rfl ?_
  refine zz_J.cv 27 (as := []) rfl rfl (hR.clS e0 (by decide)) (by decide) (Nat.le_of_ble_eq_true rfl) (Nat.le_of_ble_eq_true rfl) rfl (Nat.le_of_ble_eq_true rfl) rfl ?_
  refine zz_J.mono (k hR) ?_
  intro o h' hE
  cases o with
  | inl v => exact zz_J.weak hE rfl trivial
  | inr q => exact hE
theorem cb_215_27 {X : Nat → Option zz_C} {h : zz_H} {t : cS} {s : mS} {d : Nat} {Q : zz_O → zz_H → Prop} {y0 : Int64} (hR : kR h t s) (k : ∀ {h : zz_H}, kR h t s → Q (.inl (some (.long y0))) h) : zz_J zp_P zt_tf zt_fd X d zm_215 27 [] [.long y0] h Q := by
  refine zz_J.ret rfl rfl rfl ?_
  exact k hR
def cf_215_27 (N : Nat) (X : Nat → Option zz_C) (y0 : Int64) (t : cS) : kO := some (t, .inl (some (.long y0)))
theorem cr_215_27 {X : Nat → Option zz_C} {s : mS} {N : Nat} {d : Nat} (hd : 24 ≤ d) {Q : zz_O → zz_H → Prop} {y0 : Int64} {h : zz_H} {t t' : cS} {o : kY} (hR : kR h t s) (hf : cf_215_27 N X y0 t = some (t', o)) (k : (∀ h', kR h' t' s → kE o Q h')) : zz_J zp_P zt_tf zt_fd X d zm_215 27 [] [.long y0] h Q := by
  unfold cf_215_27 at hf
  cases hf
  exact cb_215_27 hR  (fun {h} hR => k h hR)
def cf_215_15 (N : Nat) (X : Nat → Option zz_C) (x0 : Nat) (x1 : Int32) (t : cS) : kO := if kH t x0 = true then (ko_call 7 (cf_S4 N X 12 217 [.ref x0, .int x1, .int 0] (jI t (3000000 + x0) 2 0)) (fun g1 v1 => co_l v1 (fun y => cf_215_27 N X y g1))) else none
theorem cr_215_15 {X : Nat → Option zz_C} {s : mS} {N : Nat} {d : Nat} (hd : 24 ≤ d) {Q : zz_O → zz_H → Prop} {x0 : Nat} {x1 : Int32} {h : zz_H} {t t' : cS} {o : kY} (hR : kR h t s) (hf : cf_215_15 N X x0 x1 t = some (t', o)) (k : (∀ h', kR h' t' s → kE o Q h')) : zz_J zp_P zt_tf zt_fd X d zm_215 15 [(0, .ref x0), (1, .int x1), (2, .ref 42)] [] h Q := by
  unfold cf_215_15 at hf
  obtain ⟨e0, hf⟩ := ko_if hf
  obtain ⟨d', rfl⟩ : ∃ d', d = d' + 1 := ⟨d - 1, by omega⟩
  refine cb_215_15 hR e0 (fun {h} hR => ?_)
  rcases ko_call_ok hf with ⟨g1, v1, er, hf⟩ | ⟨g1, er, hq⟩
  · obtain ⟨y, hv, hf2⟩ := co_l_ok hf
    clear hf
    have hf := hf2
    clear hf2
    subst hv
    refine (cr_S4 12) (by omega) hR er (fun h hR => ?_)
    exact cr_215_27 hd hR hf k
  · refine (cr_S4 12) (by omega) hR er (fun h hR => ?_)
    exact ko_thrown hq hR k
def cf_215_14 (N : Nat) (X : Nat → Option zz_C) (y0 : Int64) (t : cS) : kO := some (t, .inl (some (.long y0)))
theorem cr_215_14 {X : Nat → Option zz_C} {s : mS} {N : Nat} {d : Nat} (hd : 24 ≤ d) {Q : zz_O → zz_H → Prop} {y0 : Int64} {h : zz_H} {t t' : cS} {o : kY} (hR : kR h t s) (hf : cf_215_14 N X y0 t = some (t', o)) (k : (∀ h', kR h' t' s → kE o Q h')) : zz_J zp_P zt_tf zt_fd X d zm_215 14 [] [.long y0] h Q := by
  unfold cf_215_14 at hf
  cases hf
  exact cb_215_14 hR  (fun {h} hR => k h hR)
def cf_215_9 (N : Nat) (X : Nat → Option zz_C)  (t : cS) : kO := ko_call 1000 (cf_253 N X (-1) 0 t) (fun g1 v1 => co_l v1 (fun y => cf_215_14 N X y g1))
theorem cr_215_9 {X : Nat → Option zz_C} {s : mS} {N : Nat} {d : Nat} (hd : 24 ≤ d) {Q : zz_O → zz_H → Prop}  {h : zz_H} {t t' : cS} {o : kY} (hR : kR h t s) (hf : cf_215_9 N X  t = some (t', o)) (k : (∀ h', kR h' t' s → kE o Q h')) : zz_J zp_P zt_tf zt_fd X d zm_215 9 [] [] h Q := by
  unfold cf_215_9 at hf
  obtain ⟨d', rfl⟩ : ∃ d', d = d' + 1 := ⟨d - 1, by omega⟩
  refine cb_215_9 hR  (fun {h} hR => ?_)
  rcases ko_call_ok hf with ⟨g1, v1, er, hf⟩ | ⟨g1, er, hq⟩
  · obtain ⟨y, hv, hf2⟩ := co_l_ok hf
    clear hf
    have hf := hf2
    clear hf2
    subst hv
    refine cr_253 (by omega) hR er (fun h hR => ?_)
    exact cr_215_14 hd hR hf k
  · refine cr_253 (by omega) hR er (fun h hR => ?_)
    exact ko_thrown hq hR k
def cf_215_0 (N : Nat) (X : Nat → Option zz_C) (x0 : Nat) (x1 : Int32) (t : cS) : kO := if kH t x0 = true then (if ¬ (x1 < 0 ∨ (kA t (2000000 + 20 * x0 + 10)).1 ≤ (Int32.toNatClampNeg x1)) then (if ¬ ((kA t (2000000 + 20 * x0 + 10)).2 (Int32.toNatClampNeg x1)) = 0 then cf_215_15 N X x0 x1 t else cf_215_9 N X  t) else none) else none
theorem cr_215_0 {X : Nat → Option zz_C} {s : mS} {N : Nat} {d : Nat} (hd : 24 ≤ d) {Q : zz_O → zz_H → Prop} {x0 : Nat} {x1 : Int32} {h : zz_H} {t t' : cS} {o : kY} (hR : kR h t s) (hf : cf_215_0 N X x0 x1 t = some (t', o)) (k : (∀ h', kR h' t' s → kE o Q h')) : zz_J zp_P zt_tf zt_fd X d zm_215 0 [(0, .ref x0), (1, .int x1), (2, .ref 42)] [] h Q := by
  unfold cf_215_0 at hf
  obtain ⟨e0, hf⟩ := ko_if hf
  obtain ⟨e1, hf⟩ := ko_if hf
  refine cb_215_0 hR e0 e1 (fun c {h} hR => ?_) (fun c {h} hR => ?_)
  · rw [if_pos c] at hf
    exact cr_215_15 hd hR hf k
  · rw [if_neg c] at hf
    exact cr_215_9 hd hR hf k
/-- read -/
def cf_215 (N : Nat) (X : Nat → Option zz_C) (x0 : Nat) (x1 : Int32) (t : cS) : kO := cf_215_0 N X x0 x1 t
theorem cr_215 {X : Nat → Option zz_C} {s : mS} {N : Nat} {d : Nat} (hd : 24 ≤ d) {Q : zz_O → zz_H → Prop} {x0 : Nat} {x1 : Int32} {h : zz_H} {t t' : cS} {o : kY} (hR : kR h t s) (hf : cf_215 N X x0 x1 t = some (t', o)) (k : ∀ h', kR h' t' s → kE o Q h') : zz_J zp_P zt_tf zt_fd X d zm_215 0 [(0, .ref x0), (1, .int x1), (2, .ref 42)] [] h Q := by
  unfold cf_215 at hf
  exact zz_J.weak (cr_215_0 hd hR hf k) rfl ⟨rfl, rfl, rfl, trivial⟩
/-! yX9_begin (I)V -/
theorem cb_233_0 {X : Nat → Option zz_C} {h : zz_H} {t : cS} {s : mS} {d : Nat} {Q : zz_O → zz_H → Prop} {x1 : Int32} (hR : kR h t s) (k : ∀ {h : zz_H}, kR h (jI (jI (jI (jI (jI (jI t 48 0 1) 48 1 x1) 48 2 0) 48 3 0) 48 4 0) 48 5 0) s → zz_J zp_P zt_tf zt_fd X d zm_241 0 [(0, .ref 48)] [] h (zz_after 9 Q (fun v h' => zz_J zp_P zt_tf zt_fd X (d + 1) zm_233 34 [] (v.toList ++ []) h' Q))) : zz_J zp_P zt_tf zt_fd X (d + 1) zm_233 0 [(0, .ref 48), (1, .int x1)] [] h Q := by
  refine zz_J.n 1 rfl rfl rfl ?_
  refine zz_J.c 2 (.int 1) rfl rfl rfl rfl ?_
  obtain ⟨h1, eq1, hR⟩ := hR.pI (x := (1 : Int32)) (by decide) ko_48 (kpi_48_0 _) (Nat.le_of_ble_eq_true rfl) rfl
  refine zz_J.pv 5 rfl eq1 rfl ?_
  clear eq1
  refine zz_J.n 6 rfl rfl rfl ?_
  refine zz_J.n 7 rfl rfl rfl ?_
  obtain ⟨h1, eq1, hR⟩ := hR.pI (x := x1) (by decide) ko_48 (kpi_48_1 _) (Nat.le_of_ble_eq_true rfl) rfl
  refine zz_J.pv 10 rfl eq1 rfl ?_
  clear eq1
  refine zz_J.n 11 rfl rfl rfl ?_
  refine zz_J.c 12 (.int 0) rfl rfl rfl rfl ?_
  obtain ⟨h1, eq1, hR⟩ := hR.pI (x := (0 : Int32)) (by decide) ko_48 (kpi_48_2 _) (Nat.le_of_ble_eq_true rfl) rfl
  refine zz_J.pv 15 rfl eq1 rfl ?_
  clear eq1
  refine zz_J.n 16 rfl rfl rfl ?_
  refine zz_J.c 17 (.int 0) rfl rfl rfl rfl ?_
  obtain ⟨h1, eq1, hR⟩ := hR.pI (x := (0 : Int32)) (by decide) ko_48 (kpi_48_3 _) (Nat.le_of_ble_eq_true rfl) rfl
  refine zz_J.pv 20 rfl eq1 rfl ?_
  clear eq1
  refine zz_J.n 21 rfl rfl rfl ?_
  refine zz_J.c 22 (.int 0) rfl rfl rfl rfl ?_
  obtain ⟨h1, eq1, hR⟩ := hR.pI (x := (0 : Int32)) (by decide) ko_48 (kpi_48_4 _) (Nat.le_of_ble_eq_true rfl) rfl
  refine zz_J.pv 25 rfl eq1 rfl ?_
  clear eq1
  refine zz_J.n 26 rfl rfl rfl ?_
  refine zz_J.c 27 (.int 0) rfl rfl rfl rfl ?_
  obtain ⟨h1, eq1, hR⟩ := hR.pI (x := (0 : Int32)) (by decide) ko_48 (kpi_48_5 _) (Nat.le_of_ble_eq_true rfl) rfl
  refine zz_J.pv 30 rfl eq1 rfl ?_
  clear eq1
  refine zz_J.n 31 rfl rfl rfl ?_
  refine zz_J.cv 34 (as := []) rfl rfl (hR.clO ko_48 (by decide) (by decide)) (by decide) (Nat.le_of_ble_eq_true rfl) (Nat.le_of_ble_eq_true rfl) rfl (Nat.le_of_ble_eq_true rfl) rfl ?_
  refine zz_J.mono (k hR) ?_
  intro o h' hE
  cases o with
  | inl v => exact zz_J.weak hE rfl trivial
  | inr q => exact hE
theorem cb_233_34 {X : Nat → Option zz_C} {h : zz_H} {t : cS} {s : mS} {d : Nat} {Q : zz_O → zz_H → Prop}  (hR : kR h t s) (k : ∀ {h : zz_H}, kR h t s → Q (.inl none) h) : zz_J zp_P zt_tf zt_fd X d zm_233 34 [] [] h Q := by
  refine zz_J.ret rfl rfl rfl ?_
  exact k hR
def cf_233_34 (N : Nat) (X : Nat → Option zz_C)  (t : cS) : kO := some (t, .inl none)
theorem cr_233_34 {X : Nat → Option zz_C} {s : mS} {N : Nat} {d : Nat} (hd : 1 ≤ d) {Q : zz_O → zz_H → Prop}  {h : zz_H} {t t' : cS} {o : kY} (hR : kR h t s) (hf : cf_233_34 N X  t = some (t', o)) (k : (∀ h', kR h' t' s → kE o Q h')) : zz_J zp_P zt_tf zt_fd X d zm_233 34 [] [] h Q := by
  unfold cf_233_34 at hf
  cases hf
  exact cb_233_34 hR  (fun {h} hR => k h hR)
def cf_233_0 (N : Nat) (X : Nat → Option zz_C) (x1 : Int32) (t : cS) : kO := ko_call 9 (cf_241 N X  (jI (jI (jI (jI (jI (jI t 48 0 1) 48 1 x1) 48 2 0) 48 3 0) 48 4 0) 48 5 0)) (fun g1 v1 => co_v v1 (cf_233_34 N X  g1))
theorem cr_233_0 {X : Nat → Option zz_C} {s : mS} {N : Nat} {d : Nat} (hd : 1 ≤ d) {Q : zz_O → zz_H → Prop} {x1 : Int32} {h : zz_H} {t t' : cS} {o : kY} (hR : kR h t s) (hf : cf_233_0 N X x1 t = some (t', o)) (k : (∀ h', kR h' t' s → kE o Q h')) : zz_J zp_P zt_tf zt_fd X d zm_233 0 [(0, .ref 48), (1, .int x1)] [] h Q := by
  unfold cf_233_0 at hf
  obtain ⟨d', rfl⟩ : ∃ d', d = d' + 1 := ⟨d - 1, by omega⟩
  refine cb_233_0 hR  (fun {h} hR => ?_)
  rcases ko_call_ok hf with ⟨g1, v1, er, hf⟩ | ⟨g1, er, hq⟩
  · obtain ⟨hv, hf2⟩ := co_v_ok hf
    clear hf
    have hf := hf2
    clear hf2
    subst hv
    refine cr_241 (by omega) hR er (fun h hR => ?_)
    exact cr_233_34 hd hR hf k
  · refine cr_241 (by omega) hR er (fun h hR => ?_)
    exact ko_thrown hq hR k
/-- begin -/
def cf_233 (N : Nat) (X : Nat → Option zz_C) (x1 : Int32) (t : cS) : kO := cf_233_0 N X x1 t
theorem cr_233 {X : Nat → Option zz_C} {s : mS} {N : Nat} {d : Nat} (hd : 1 ≤ d) {Q : zz_O → zz_H → Prop} {x1 : Int32} {h : zz_H} {t t' : cS} {o : kY} (hR : kR h t s) (hf : cf_233 N X x1 t = some (t', o)) (k : ∀ h', kR h' t' s → kE o Q h') : zz_J zp_P zt_tf zt_fd X d zm_233 0 [(0, .ref 48), (1, .int x1)] [] h Q := by
  unfold cf_233 at hf
  exact zz_J.weak (cr_233_0 hd hR hf k) rfl ⟨rfl, rfl, trivial⟩
/-! yX9_troubleKind ()I -/
theorem cb_234_0 {X : Nat → Option zz_C} {h : zz_H} {t : cS} {s : mS} {d : Nat} {Q : zz_O → zz_H → Prop}  (hR : kR h t s) (k : ∀ {h : zz_H}, kR h t s → Q (.inl (some (.int (kI t 48 6)))) h) : zz_J zp_P zt_tf zt_fd X d zm_234 0 [(0, .ref 48)] [] h Q := by
  refine zz_J.n 1 rfl rfl rfl ?_
  refine zz_J.g 4 rfl (hR.gv (v := .int (kI t 48 6)) ko_48 (by decide) rfl) rfl ?_
  refine zz_J.ret rfl rfl rfl ?_
  exact k hR
def cf_234_0 (N : Nat) (X : Nat → Option zz_C)  (t : cS) : kO := some (t, .inl (some (.int (kI t 48 6))))
theorem cr_234_0 {X : Nat → Option zz_C} {s : mS} {N : Nat} {d : Nat} (hd : 0 ≤ d) {Q : zz_O → zz_H → Prop}  {h : zz_H} {t t' : cS} {o : kY} (hR : kR h t s) (hf : cf_234_0 N X  t = some (t', o)) (k : (∀ h', kR h' t' s → kE o Q h')) : zz_J zp_P zt_tf zt_fd X d zm_234 0 [(0, .ref 48)] [] h Q := by
  unfold cf_234_0 at hf
  cases hf
  exact cb_234_0 hR  (fun {h} hR => k h hR)
/-- troubleKind -/
def cf_234 (N : Nat) (X : Nat → Option zz_C)  (t : cS) : kO := cf_234_0 N X  t
theorem cr_234 {X : Nat → Option zz_C} {s : mS} {N : Nat} {d : Nat} (hd : 0 ≤ d) {Q : zz_O → zz_H → Prop}  {h : zz_H} {t t' : cS} {o : kY} (hR : kR h t s) (hf : cf_234 N X  t = some (t', o)) (k : ∀ h', kR h' t' s → kE o Q h') : zz_J zp_P zt_tf zt_fd X d zm_234 0 [(0, .ref 48)] [] h Q := by
  unfold cf_234 at hf
  exact zz_J.weak (cr_234_0 hd hR hf k) rfl ⟨rfl, trivial⟩
/-! yX3_touched (I)Z -/
theorem cb_138_0 {X : Nat → Option zz_C} {h : zz_H} {t : cS} {s : mS} {d : Nat} {Q : zz_O → zz_H → Prop} {x1 : Int32} (hR : kR h t s) (e0 : ¬ (x1 < 0 ∨ (kA t 51).1 ≤ (Int32.toNatClampNeg x1))) (k : ∀ {h : zz_H}, kR h t s → Q (.inl (some (.int ((kA t 51).2 (Int32.toNatClampNeg x1))))) h) (rb : zz_reti (some .boolean) ((kA t 51).2 (Int32.toNatClampNeg x1)) = true) : zz_J zp_P zt_tf zt_fd X d zm_138 0 [(0, .ref 49), (1, .int x1)] [] h Q := by
  refine zz_J.n 1 rfl rfl rfl ?_
  refine zz_J.g 4 rfl (hR.gv (v := .ref (kD t 51)) ko_49 (by decide) rfl) rfl ?_
  refine zz_J.n 5 rfl rfl rfl ?_
  refine zz_J.ab 6 rfl (hR.ab (w := ((kA t 51).2 (Int32.toNatClampNeg x1))) ka_51 rfl (by decide) e0 rfl) rfl ?_
  refine zz_J.ret rfl rfl (if_pos ⟨rfl, rb⟩) ?_
  exact k hR
def cf_138_0 (N : Nat) (X : Nat → Option zz_C) (x1 : Int32) (t : cS) : kO := if ¬ (x1 < 0 ∨ (kA t 51).1 ≤ (Int32.toNatClampNeg x1)) then (if zz_reti (some .boolean) ((kA t 51).2 (Int32.toNatClampNeg x1)) = true then some (t, .inl (some (.int ((kA t 51).2 (Int32.toNatClampNeg x1))))) else none) else none
theorem cr_138_0 {X : Nat → Option zz_C} {s : mS} {N : Nat} {d : Nat} (hd : 0 ≤ d) {Q : zz_O → zz_H → Prop} {x1 : Int32} {h : zz_H} {t t' : cS} {o : kY} (hR : kR h t s) (hf : cf_138_0 N X x1 t = some (t', o)) (k : (∀ h', kR h' t' s → kE o Q h')) : zz_J zp_P zt_tf zt_fd X d zm_138 0 [(0, .ref 49), (1, .int x1)] [] h Q := by
  unfold cf_138_0 at hf
  obtain ⟨e0, hf⟩ := ko_if hf
  obtain ⟨rb, hf⟩ := ko_if hf
  cases hf
  exact cb_138_0 hR e0 (fun {h} hR => k h hR) rb
/-- touched -/
def cf_138 (N : Nat) (X : Nat → Option zz_C) (x1 : Int32) (t : cS) : kO := cf_138_0 N X x1 t
theorem cr_138 {X : Nat → Option zz_C} {s : mS} {N : Nat} {d : Nat} (hd : 0 ≤ d) {Q : zz_O → zz_H → Prop} {x1 : Int32} {h : zz_H} {t t' : cS} {o : kY} (hR : kR h t s) (hf : cf_138 N X x1 t = some (t', o)) (k : ∀ h', kR h' t' s → kE o Q h') : zz_J zp_P zt_tf zt_fd X d zm_138 0 [(0, .ref 49), (1, .int x1)] [] h Q := by
  unfold cf_138 at hf
  exact zz_J.weak (cr_138_0 hd hR hf k) rfl ⟨rfl, rfl, trivial⟩
