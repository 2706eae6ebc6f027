/-! a group that calls itself: block, statement, ifStatement, whileStatement, forStatement, tryStatement -/
def cK1 (X : Nat → Option zz_C) (s : mS) (D : Nat) (rk : Nat → List Value → cS → kO) : Prop := (∀ {d : Nat} (_ : D ≤ d) {Q : zz_O → zz_H → Prop}  {h : zz_H} {t t' : cS} {o : kY} (_ : kR h t s) (_ : rk 176 [] t = some (t', o)) (_ : ∀ h', kR h' t' s → kE o Q h'), zz_J zp_P zt_tf zt_fd X d zm_176 0 [(0, .ref 2)] [] h Q) ∧ (∀ {d : Nat} (_ : D ≤ d) {Q : zz_O → zz_H → Prop}  {h : zz_H} {t t' : cS} {o : kY} (_ : kR h t s) (_ : rk 177 [] t = some (t', o)) (_ : ∀ h', kR h' t' s → kE o Q h'), zz_J zp_P zt_tf zt_fd X d zm_177 0 [(0, .ref 2)] [] h Q) ∧ (∀ {d : Nat} (_ : D ≤ d) {Q : zz_O → zz_H → Prop} {x1 : Int32} {h : zz_H} {t t' : cS} {o : kY} (_ : kR h t s) (_ : rk 181 [.int x1] t = some (t', o)) (_ : ∀ h', kR h' t' s → kE o Q h'), zz_J zp_P zt_tf zt_fd X d zm_181 0 [(0, .ref 2), (1, .int x1)] [] h Q) ∧ (∀ {d : Nat} (_ : D ≤ d) {Q : zz_O → zz_H → Prop} {x1 : Int32} {h : zz_H} {t t' : cS} {o : kY} (_ : kR h t s) (_ : rk 182 [.int x1] t = some (t', o)) (_ : ∀ h', kR h' t' s → kE o Q h'), zz_J zp_P zt_tf zt_fd X d zm_182 0 [(0, .ref 2), (1, .int x1)] [] h Q) ∧ (∀ {d : Nat} (_ : D ≤ d) {Q : zz_O → zz_H → Prop} {x1 : Int32} {h : zz_H} {t t' : cS} {o : kY} (_ : kR h t s) (_ : rk 184 [.int x1] t = some (t', o)) (_ : ∀ h', kR h' t' s → kE o Q h'), zz_J zp_P zt_tf zt_fd X d zm_184 0 [(0, .ref 2), (1, .int x1)] [] h Q) ∧ (∀ {d : Nat} (_ : D ≤ d) {Q : zz_O → zz_H → Prop}  {h : zz_H} {t t' : cS} {o : kY} (_ : kR h t s) (_ : rk 185 [] t = some (t', o)) (_ : ∀ h', kR h' t' s → kE o Q h'), zz_J zp_P zt_tf zt_fd X d zm_185 0 [(0, .ref 2)] [] h Q)
/-! yX5_block -/
theorem cb_176_0 {X : Nat → Option zz_C} {h : zz_H} {t : cS} {s : mS} {d : Nat} {Q : zz_O → zz_H → Prop}  (hR : kR h t s) (k : ∀ {h : zz_H}, kR h t s → zz_J zp_P zt_tf zt_fd X d zm_201 0 [(0, .ref 2), (1, .int 123)] [] h (zz_after 5 Q (fun v h' => zz_J zp_P zt_tf zt_fd X (d + 1) zm_176 6 [(0, .ref 2)] (v.toList ++ []) h' Q))) : zz_J zp_P zt_tf zt_fd X (d + 1) zm_176 0 [(0, .ref 2)] [] h Q := by
  refine zz_J.n 1 rfl rfl rfl ?_
  refine zz_J.c 3 (.int 123) rfl rfl rfl rfl ?_
  refine zz_J.cv 6 (as := []) rfl rfl (hR.clO ko_2 (by decide) (by decide)) (by decide) (Nat.le_of_ble_eq_true rfl) (Nat.le_of_ble_eq_true rfl) rfl (Nat.le_of_ble_eq_true rfl) rfl ?_
  refine zz_J.mono (k hR) ?_
  intro o h' hE
  cases o with
  | inl v => exact zz_J.weak hE rfl ⟨rfl, trivial⟩
  | inr q => exact hE
theorem cb_176_6 {X : Nat → Option zz_C} {h : zz_H} {t : cS} {s : mS} {d : Nat} {Q : zz_O → zz_H → Prop}  (hR : kR h t s) (k : ∀ {h : zz_H}, kR h t s → zz_J zp_P zt_tf zt_fd X d zm_176 8 [(0, .ref 2), (1, .int 0)] [] h Q) : zz_J zp_P zt_tf zt_fd X d zm_176 6 [(0, .ref 2)] [] h Q := by
  refine zz_J.c 7 (.int 0) rfl rfl rfl rfl ?_
  refine zz_J.n 8 rfl rfl rfl ?_
  exact zz_J.weak (k hR) rfl ⟨rfl, rfl, trivial⟩
theorem cb_176_8 {X : Nat → Option zz_C} {h : zz_H} {t : cS} {s : mS} {d : Nat} {Q : zz_O → zz_H → Prop} {x1 : Int32} (hR : kR h t s) (k : ∀ {h : zz_H}, kR h t s → zz_J zp_P zt_tf zt_fd X d zm_41 0 [(0, .ref 3)] [] h (zz_after 10 Q (fun v h' => zz_J zp_P zt_tf zt_fd X (d + 1) zm_176 16 [(0, .ref 2), (1, .int x1)] (v.toList ++ [.int x1]) h' Q))) : zz_J zp_P zt_tf zt_fd X (d + 1) zm_176 8 [(0, .ref 2), (1, .int x1)] [] h Q := by
  refine zz_J.n 9 rfl rfl rfl ?_
  refine zz_J.n 10 rfl rfl rfl ?_
  refine zz_J.g 13 rfl (hR.gv (v := .ref 3) ko_2 (by decide) rfl) rfl ?_
  refine zz_J.cv 16 (as := [.int x1]) rfl rfl (hR.clO ko_3 (by decide) (by decide)) (by decide) (Nat.le_of_ble_eq_true rfl) (Nat.le_of_ble_eq_true rfl) rfl (Nat.le_of_ble_eq_true rfl) rfl ?_
  refine zz_J.mono (k hR) ?_
  intro o h' hE
  cases o with
  | inl v => exact zz_J.weak hE rfl ⟨rfl, rfl, trivial⟩
  | inr q => exact hE
theorem cb_176_16 {X : Nat → Option zz_C} {h : zz_H} {t : cS} {s : mS} {d : Nat} {Q : zz_O → zz_H → Prop} {x1 : Int32} {y0 : Int32} {y1 : Int32} (hR : kR h t s) (k1 : y1 ≤ y0 → (∀ {h : zz_H}, kR h t s → zz_J zp_P zt_tf zt_fd X d zm_176 41 [(0, .ref 2)] [] h Q)) (k2 : ¬ y1 ≤ y0 → (∀ {h : zz_H}, kR h t s → zz_J zp_P zt_tf zt_fd X d zm_176 19 [(0, .ref 2), (1, .int x1)] [] h Q)) : zz_J zp_P zt_tf zt_fd X d zm_176 16 [(0, .ref 2), (1, .int x1)] [.int y1, .int y0] h Q := by
  refine zz_J.b2 41 19 (A := y1 ≤ y0) rfl rfl (by decide) rfl rfl (fun c => ?_) (fun c => ?_)
  · exact zz_J.weak (k1 c hR) rfl ⟨rfl, trivial⟩
  · exact zz_J.weak (k2 c hR) rfl ⟨rfl, rfl, trivial⟩
theorem cb_176_19 {X : Nat → Option zz_C} {h : zz_H} {t : cS} {s : mS} {d : Nat} {Q : zz_O → zz_H → Prop} {x1 : Int32} (hR : kR h t s) (k : ∀ {h : zz_H}, kR h t s → zz_J zp_P zt_tf zt_fd X d zm_42 0 [(0, .ref 3)] [] h (zz_after 10 Q (fun v h' => zz_J zp_P zt_tf zt_fd X (d + 1) zm_176 26 [(0, .ref 2), (1, .int x1)] (v.toList ++ []) h' Q))) : zz_J zp_P zt_tf zt_fd X (d + 1) zm_176 19 [(0, .ref 2), (1, .int x1)] [] h Q := by
  refine zz_J.n 20 rfl rfl rfl ?_
  refine zz_J.g 23 rfl (hR.gv (v := .ref 3) ko_2 (by decide) rfl) rfl ?_
  refine zz_J.cv 26 (as := []) rfl rfl (hR.clO ko_3 (by decide) (by decide)) (by decide) (Nat.le_of_ble_eq_true rfl) (Nat.le_of_ble_eq_true rfl) rfl (Nat.le_of_ble_eq_true rfl) rfl ?_
  refine zz_J.mono (k hR) ?_
  intro o h' hE
  cases o with
  | inl v => exact zz_J.weak hE rfl ⟨rfl, rfl, trivial⟩
  | inr q => exact hE
theorem cb_176_26 {X : Nat → Option zz_C} {h : zz_H} {t : cS} {s : mS} {d : Nat} {Q : zz_O → zz_H → Prop} {x1 : Int32} {y0 : Int32} (hR : kR h t s) (k1 : y0 = 125 → (∀ {h : zz_H}, kR h t s → zz_J zp_P zt_tf zt_fd X d zm_176 41 [(0, .ref 2)] [] h Q)) (k2 : ¬ y0 = 125 → (∀ {h : zz_H}, kR h t s → zz_J zp_P zt_tf zt_fd X d zm_176 31 [(0, .ref 2), (1, .int x1)] [] h Q)) : zz_J zp_P zt_tf zt_fd X d zm_176 26 [(0, .ref 2), (1, .int x1)] [.int y0] h Q := by
  refine zz_J.c 28 (.int 125) rfl rfl rfl rfl ?_
  refine zz_J.b2 41 31 (A := y0 = 125) rfl rfl (by decide) rfl rfl (fun c => ?_) (fun c => ?_)
  · exact zz_J.weak (k1 c hR) rfl ⟨rfl, trivial⟩
  · exact zz_J.weak (k2 c hR) rfl ⟨rfl, rfl, trivial⟩
theorem cb_176_31 {X : Nat → Option zz_C} {h : zz_H} {t : cS} {s : mS} {d : Nat} {Q : zz_O → zz_H → Prop} {x1 : Int32} (hR : kR h t s) (k : ∀ {h : zz_H}, kR h t s → zz_J zp_P zt_tf zt_fd X d zm_177 0 [(0, .ref 2)] [] h (zz_after 5 Q (fun v h' => zz_J zp_P zt_tf zt_fd X (d + 1) zm_176 35 [(0, .ref 2), (1, .int x1)] (v.toList ++ []) h' Q))) : zz_J zp_P zt_tf zt_fd X (d + 1) zm_176 31 [(0, .ref 2), (1, .int x1)] [] h Q := by
  refine zz_J.n 32 rfl rfl rfl ?_
  refine zz_J.cv 35 (as := []) rfl rfl (hR.clO ko_2 (by decide) (by decide)) (by decide) (Nat.le_of_ble_eq_true rfl) (Nat.le_of_ble_eq_true rfl) rfl (Nat.le_of_ble_eq_true rfl) rfl ?_
  refine zz_J.mono (k hR) ?_
  intro o h' hE
  cases o with
  | inl v => exact zz_J.weak hE rfl ⟨rfl, rfl, trivial⟩
  | inr q => exact hE
theorem cb_176_35 {X : Nat → Option zz_C} {h : zz_H} {t : cS} {s : mS} {d : Nat} {Q : zz_O → zz_H → Prop} {x1 : Int32} (hR : kR h t s) (k : ∀ {h : zz_H}, kR h t s → zz_J zp_P zt_tf zt_fd X d zm_176 8 [(0, .ref 2), (1, .int (x1 + 1))] [] h Q) : zz_J zp_P zt_tf zt_fd X d zm_176 35 [(0, .ref 2), (1, .int x1)] [] h Q := by
  refine zz_J.n 38 rfl rfl rfl ?_
  refine zz_J.n 8 rfl rfl rfl ?_
  exact zz_J.weak (k hR) rfl ⟨rfl, rfl, trivial⟩
theorem cb_176_41 {X : Nat → Option zz_C} {h : zz_H} {t : cS} {s : mS} {d : Nat} {Q : zz_O → zz_H → Prop}  (hR : kR h t s) (k : ∀ {h : zz_H}, kR h t s → zz_J zp_P zt_tf zt_fd X d zm_201 0 [(0, .ref 2), (1, .int 125)] [] h (zz_after 5 Q (fun v h' => zz_J zp_P zt_tf zt_fd X (d + 1) zm_176 47 [] (v.toList ++ []) h' Q))) : zz_J zp_P zt_tf zt_fd X (d + 1) zm_176 41 [(0, .ref 2)] [] h Q := by
  refine zz_J.n 42 rfl rfl rfl ?_
  refine zz_J.c 44 (.int 125) rfl rfl rfl rfl ?_
  refine zz_J.cv 47 (as := []) rfl rfl (hR.clO ko_2 (by decide) (by decide)) (by decide) (Nat.le_of_ble_eq_true rfl) (Nat.le_of_ble_eq_true rfl) rfl (Nat.le_of_ble_eq_true rfl) rfl ?_
  refine zz_J.mono (k hR) ?_
  intro o h' hE
  cases o with
  | inl v => exact zz_J.weak hE rfl trivial
  | inr q => exact hE
theorem cb_176_47 {X : Nat → Option zz_C} {h : zz_H} {t : cS} {s : mS} {d : Nat} {Q : zz_O → zz_H → Prop}  (hR : kR h t s) (k : ∀ {h : zz_H}, kR h t s → Q (.inl none) h) : zz_J zp_P zt_tf zt_fd X d zm_176 47 [] [] h Q := by
  refine zz_J.ret rfl rfl rfl ?_
  exact k hR
def cf_176_47 (N : Nat) (X : Nat → Option zz_C) (rk : Nat → List Value → cS → kO)  (t : cS) : kO := some (t, .inl none)
theorem cr_176_47 {X : Nat → Option zz_C} {s : mS} {N : Nat} {rk : Nat → List Value → cS → kO} {D : Nat} (hrk : cK1 X s D rk) (hB : 162 ≤ D) {d : Nat} (hd : D + 1 ≤ d) {Q : zz_O → zz_H → Prop}  {h : zz_H} {t t' : cS} {o : kY} (hR : kR h t s) (hf : cf_176_47 N X rk  t = some (t', o)) (k : (∀ h', kR h' t' s → kE o Q h')) : zz_J zp_P zt_tf zt_fd X d zm_176 47 [] [] h Q := by
  unfold cf_176_47 at hf
  cases hf
  exact cb_176_47 hR  (fun {h} hR => k h hR)
def cf_176_41 (N : Nat) (X : Nat → Option zz_C) (rk : Nat → List Value → cS → kO)  (t : cS) : kO := ko_call 5 (cf_201 N X 125 t) (fun g1 v1 => co_v v1 (cf_176_47 N X rk  g1))
theorem cr_176_41 {X : Nat → Option zz_C} {s : mS} {N : Nat} {rk : Nat → List Value → cS → kO} {D : Nat} (hrk : cK1 X s D rk) (hB : 162 ≤ D) {d : Nat} (hd : D + 1 ≤ d) {Q : zz_O → zz_H → Prop}  {h : zz_H} {t t' : cS} {o : kY} (hR : kR h t s) (hf : cf_176_41 N X rk  t = some (t', o)) (k : (∀ h', kR h' t' s → kE o Q h')) : zz_J zp_P zt_tf zt_fd X d zm_176 41 [(0, .ref 2)] [] h Q := by
  unfold cf_176_41 at hf
  obtain ⟨d', rfl⟩ : ∃ d', d = d' + 1 := ⟨d - 1, by omega⟩
  refine cb_176_41 hR  (fun {h} hR => ?_)
  rcases ko_call_ok hf with ⟨g1, v1, er, hf⟩ | ⟨g1, er, hq⟩
  · obtain ⟨hv, hf2⟩ := co_v_ok hf
    clear hf
    have hf := hf2
    clear hf2
    subst hv
    refine cr_201 (by omega) hR er (fun h hR => ?_)
    exact cr_176_47 hrk hB hd hR hf k
  · refine cr_201 (by omega) hR er (fun h hR => ?_)
    exact ko_thrown hq hR k
def cf_176_35 (N : Nat) (X : Nat → Option zz_C) (rk : Nat → List Value → cS → kO) (rc : Nat → Int32 → cS → kO) (x1 : Int32) (t : cS) : kO := rc 0 (x1 + 1) t
theorem cr_176_35 {X : Nat → Option zz_C} {s : mS} {N : Nat} {rk : Nat → List Value → cS → kO} {D : Nat} (hrk : cK1 X s D rk) (hB : 162 ≤ D) {d : Nat} (hd : D + 1 ≤ d) {rc : Nat → Int32 → cS → kO} (hrc0 : ∀ {Q : zz_O → zz_H → Prop} {x1 : Int32} {h : zz_H} {t t' : cS} {o : kY}, kR h t s → rc 0 x1 t = some (t', o) → (∀ h', kR h' t' s → kE o Q h') → zz_J zp_P zt_tf zt_fd X d zm_176 8 [(0, .ref 2), (1, .int x1)] [] h Q) {Q : zz_O → zz_H → Prop} {x1 : Int32} {h : zz_H} {t t' : cS} {o : kY} (hR : kR h t s) (hf : cf_176_35 N X rk rc x1 t = some (t', o)) (k : (∀ h', kR h' t' s → kE o Q h')) : zz_J zp_P zt_tf zt_fd X d zm_176 35 [(0, .ref 2), (1, .int x1)] [] h Q := by
  unfold cf_176_35 at hf
  exact cb_176_35 hR  (fun hR => hrc0 hR hf k)
def cf_176_31 (N : Nat) (X : Nat → Option zz_C) (rk : Nat → List Value → cS → kO) (rc : Nat → Int32 → cS → kO) (x1 : Int32) (t : cS) : kO := ko_call 5 (rk 177 [] t) (fun g1 v1 => co_v v1 (cf_176_35 N X rk rc x1 g1))
theorem cr_176_31 {X : Nat → Option zz_C} {s : mS} {N : Nat} {rk : Nat → List Value → cS → kO} {D : Nat} (hrk : cK1 X s D rk) (hB : 162 ≤ D) {d : Nat} (hd : D + 1 ≤ d) {rc : Nat → Int32 → cS → kO} (hrc0 : ∀ {Q : zz_O → zz_H → Prop} {x1 : Int32} {h : zz_H} {t t' : cS} {o : kY}, kR h t s → rc 0 x1 t = some (t', o) → (∀ h', kR h' t' s → kE o Q h') → zz_J zp_P zt_tf zt_fd X d zm_176 8 [(0, .ref 2), (1, .int x1)] [] h Q) {Q : zz_O → zz_H → Prop} {x1 : Int32} {h : zz_H} {t t' : cS} {o : kY} (hR : kR h t s) (hf : cf_176_31 N X rk rc x1 t = some (t', o)) (k : (∀ h', kR h' t' s → kE o Q h')) : zz_J zp_P zt_tf zt_fd X d zm_176 31 [(0, .ref 2), (1, .int x1)] [] h Q := by
  unfold cf_176_31 at hf
  obtain ⟨d', rfl⟩ : ∃ d', d = d' + 1 := ⟨d - 1, by omega⟩
  refine cb_176_31 hR  (fun {h} hR => ?_)
  rcases ko_call_ok hf with ⟨g1, v1, er, hf⟩ | ⟨g1, er, hq⟩
  · obtain ⟨hv, hf2⟩ := co_v_ok hf
    clear hf
    have hf := hf2
    clear hf2
    subst hv
    refine hrk.2.1 (by omega) hR er (fun h hR => ?_)
    exact cr_176_35 hrk hB hd hrc0 hR hf k
  · refine hrk.2.1 (by omega) hR er (fun h hR => ?_)
    exact ko_thrown hq hR k
def cf_176_26 (N : Nat) (X : Nat → Option zz_C) (rk : Nat → List Value → cS → kO) (rc : Nat → Int32 → cS → kO) (x1 : Int32) (y0 : Int32) (t : cS) : kO := if y0 = 125 then cf_176_41 N X rk  t else cf_176_31 N X rk rc x1 t
theorem cr_176_26 {X : Nat → Option zz_C} {s : mS} {N : Nat} {rk : Nat → List Value → cS → kO} {D : Nat} (hrk : cK1 X s D rk) (hB : 162 ≤ D) {d : Nat} (hd : D + 1 ≤ d) {rc : Nat → Int32 → cS → kO} (hrc0 : ∀ {Q : zz_O → zz_H → Prop} {x1 : Int32} {h : zz_H} {t t' : cS} {o : kY}, kR h t s → rc 0 x1 t = some (t', o) → (∀ h', kR h' t' s → kE o Q h') → zz_J zp_P zt_tf zt_fd X d zm_176 8 [(0, .ref 2), (1, .int x1)] [] h Q) {Q : zz_O → zz_H → Prop} {x1 : Int32} {y0 : Int32} {h : zz_H} {t t' : cS} {o : kY} (hR : kR h t s) (hf : cf_176_26 N X rk rc x1 y0 t = some (t', o)) (k : (∀ h', kR h' t' s → kE o Q h')) : zz_J zp_P zt_tf zt_fd X d zm_176 26 [(0, .ref 2), (1, .int x1)] [.int y0] h Q := by
  unfold cf_176_26 at hf
  refine cb_176_26 hR  (fun c {h} hR => ?_) (fun c {h} hR => ?_)
  · rw [if_pos c] at hf
    exact cr_176_41 hrk hB hd hR hf k
  · rw [if_neg c] at hf
    exact cr_176_31 hrk hB hd hrc0 hR hf k
def cf_176_19 (N : Nat) (X : Nat → Option zz_C) (rk : Nat → List Value → cS → kO) (rc : Nat → Int32 → cS → kO) (x1 : Int32) (t : cS) : kO := ko_call 10 (cf_42 N X  t) (fun g1 v1 => co_i v1 (fun y => cf_176_26 N X rk rc x1 y g1))
theorem cr_176_19 {X : Nat → Option zz_C} {s : mS} {N : Nat} {rk : Nat → List Value → cS → kO} {D : Nat} (hrk : cK1 X s D rk) (hB : 162 ≤ D) {d : Nat} (hd : D + 1 ≤ d) {rc : Nat → Int32 → cS → kO} (hrc0 : ∀ {Q : zz_O → zz_H → Prop} {x1 : Int32} {h : zz_H} {t t' : cS} {o : kY}, kR h t s → rc 0 x1 t = some (t', o) → (∀ h', kR h' t' s → kE o Q h') → zz_J zp_P zt_tf zt_fd X d zm_176 8 [(0, .ref 2), (1, .int x1)] [] h Q) {Q : zz_O → zz_H → Prop} {x1 : Int32} {h : zz_H} {t t' : cS} {o : kY} (hR : kR h t s) (hf : cf_176_19 N X rk rc x1 t = some (t', o)) (k : (∀ h', kR h' t' s → kE o Q h')) : zz_J zp_P zt_tf zt_fd X d zm_176 19 [(0, .ref 2), (1, .int x1)] [] h Q := by
  unfold cf_176_19 at hf
  obtain ⟨d', rfl⟩ : ∃ d', d = d' + 1 := ⟨d - 1, by omega⟩
  refine cb_176_19 hR  (fun {h} hR => ?_)
  rcases ko_call_ok hf with ⟨g1, v1, er, hf⟩ | ⟨g1, er, hq⟩
  · obtain ⟨y, hv, hf2⟩ := co_i_ok hf
    clear hf
    have hf := hf2
    clear hf2
    subst hv
    refine cr_42 (by omega) hR er (fun h hR => ?_)
    exact cr_176_26 hrk hB hd hrc0 hR hf k
  · refine cr_42 (by omega) hR er (fun h hR => ?_)
    exact ko_thrown hq hR k
def cf_176_16 (N : Nat) (X : Nat → Option zz_C) (rk : Nat → List Value → cS → kO) (rc : Nat → Int32 → cS → kO) (x1 : Int32) (y0 : Int32) (y1 : Int32) (t : cS) : kO := if y1 ≤ y0 then cf_176_41 N X rk  t else cf_176_19 N X rk rc x1 t
theorem cr_176_16 {X : Nat → Option zz_C} {s : mS} {N : Nat} {rk : Nat → List Value → cS → kO} {D : Nat} (hrk : cK1 X s D rk) (hB : 162 ≤ D) {d : Nat} (hd : D + 1 ≤ d) {rc : Nat → Int32 → cS → kO} (hrc0 : ∀ {Q : zz_O → zz_H → Prop} {x1 : Int32} {h : zz_H} {t t' : cS} {o : kY}, kR h t s → rc 0 x1 t = some (t', o) → (∀ h', kR h' t' s → kE o Q h') → zz_J zp_P zt_tf zt_fd X d zm_176 8 [(0, .ref 2), (1, .int x1)] [] h Q) {Q : zz_O → zz_H → Prop} {x1 : Int32} {y0 : Int32} {y1 : Int32} {h : zz_H} {t t' : cS} {o : kY} (hR : kR h t s) (hf : cf_176_16 N X rk rc x1 y0 y1 t = some (t', o)) (k : (∀ h', kR h' t' s → kE o Q h')) : zz_J zp_P zt_tf zt_fd X d zm_176 16 [(0, .ref 2), (1, .int x1)] [.int y1, .int y0] h Q := by
  unfold cf_176_16 at hf
  refine cb_176_16 hR  (fun c {h} hR => ?_) (fun c {h} hR => ?_)
  · rw [if_pos c] at hf
    exact cr_176_41 hrk hB hd hR hf k
  · rw [if_neg c] at hf
    exact cr_176_19 hrk hB hd hrc0 hR hf k
def cf_176_8 (N : Nat) (X : Nat → Option zz_C) (rk : Nat → List Value → cS → kO) (rc : Nat → Int32 → cS → kO) (x1 : Int32) (t : cS) : kO := ko_call 10 (cf_41 N X  t) (fun g1 v1 => co_i v1 (fun y => cf_176_16 N X rk rc x1 x1 y g1))
theorem cr_176_8 {X : Nat → Option zz_C} {s : mS} {N : Nat} {rk : Nat → List Value → cS → kO} {D : Nat} (hrk : cK1 X s D rk) (hB : 162 ≤ D) {d : Nat} (hd : D + 1 ≤ d) {rc : Nat → Int32 → cS → kO} (hrc0 : ∀ {Q : zz_O → zz_H → Prop} {x1 : Int32} {h : zz_H} {t t' : cS} {o : kY}, kR h t s → rc 0 x1 t = some (t', o) → (∀ h', kR h' t' s → kE o Q h') → zz_J zp_P zt_tf zt_fd X d zm_176 8 [(0, .ref 2), (1, .int x1)] [] h Q) {Q : zz_O → zz_H → Prop} {x1 : Int32} {h : zz_H} {t t' : cS} {o : kY} (hR : kR h t s) (hf : cf_176_8 N X rk rc x1 t = some (t', o)) (k : (∀ h', kR h' t' s → kE o Q h')) : zz_J zp_P zt_tf zt_fd X d zm_176 8 [(0, .ref 2), (1, .int x1)] [] h Q := by
  unfold cf_176_8 at hf
  obtain ⟨d', rfl⟩ : ∃ d', d = d' + 1 := ⟨d - 1, by omega⟩
  refine cb_176_8 hR  (fun {h} hR => ?_)
  rcases ko_call_ok hf with ⟨g1, v1, er, hf⟩ | ⟨g1, er, hq⟩
  · obtain ⟨y, hv, hf2⟩ := co_i_ok hf
    clear hf
    have hf := hf2
    clear hf2
    subst hv
    refine cr_41 (by omega) hR er (fun h hR => ?_)
    exact cr_176_16 hrk hB hd hrc0 hR hf k
  · refine cr_41 (by omega) hR er (fun h hR => ?_)
    exact ko_thrown hq hR k
def cf_176_L2 (N : Nat) (X : Nat → Option zz_C) (rk : Nat → List Value → cS → kO) : Nat → Nat → Int32 → cS → kO
  | 0, _, _, _ => none
  | n + 1, l, x1, t => if l = 0 then cf_176_8 N X rk (cf_176_L2 N X rk n) x1 t else none
theorem cr_176_L2 {X : Nat → Option zz_C} {s : mS} {N : Nat} {rk : Nat → List Value → cS → kO} {D : Nat} (hrk : cK1 X s D rk) (hB : 162 ≤ D) {d : Nat} (hd : D + 1 ≤ d) : ∀ n : Nat, (∀ {Q : zz_O → zz_H → Prop} {x1 : Int32} {h : zz_H} {t t' : cS} {o : kY}, kR h t s → cf_176_L2 N X rk n 0 x1 t = some (t', o) → (∀ h', kR h' t' s → kE o Q h') → zz_J zp_P zt_tf zt_fd X d zm_176 8 [(0, .ref 2), (1, .int x1)] [] h Q) := by
  intro n
  induction n with
  | zero => exact (fun _ hf _ => by cases hf)
  | succ n ih =>
    have h0 := @ih
    intro Q _ h t t' o hR hf k
    unfold cf_176_L2 at hf
    rw [if_pos rfl] at hf
    exact cr_176_8 hrk hB hd h0 hR hf k
def cf_176_6 (N : Nat) (X : Nat → Option zz_C) (rk : Nat → List Value → cS → kO)  (t : cS) : kO := cf_176_L2 N X rk N 0 0 t
theorem cr_176_6 {X : Nat → Option zz_C} {s : mS} {N : Nat} {rk : Nat → List Value → cS → kO} {D : Nat} (hrk : cK1 X s D rk) (hB : 162 ≤ D) {d : Nat} (hd : D + 1 ≤ d) {Q : zz_O → zz_H → Prop}  {h : zz_H} {t t' : cS} {o : kY} (hR : kR h t s) (hf : cf_176_6 N X rk  t = some (t', o)) (k : (∀ h', kR h' t' s → kE o Q h')) : zz_J zp_P zt_tf zt_fd X d zm_176 6 [(0, .ref 2)] [] h Q := by
  unfold cf_176_6 at hf
  exact cb_176_6 hR  (fun hR => cr_176_L2 hrk hB hd N hR hf k)
def cf_176_0 (N : Nat) (X : Nat → Option zz_C) (rk : Nat → List Value → cS → kO)  (t : cS) : kO := ko_call 5 (cf_201 N X 123 t) (fun g1 v1 => co_v v1 (cf_176_6 N X rk  g1))
theorem cr_176_0 {X : Nat → Option zz_C} {s : mS} {N : Nat} {rk : Nat → List Value → cS → kO} {D : Nat} (hrk : cK1 X s D rk) (hB : 162 ≤ D) {d : Nat} (hd : D + 1 ≤ d) {Q : zz_O → zz_H → Prop}  {h : zz_H} {t t' : cS} {o : kY} (hR : kR h t s) (hf : cf_176_0 N X rk  t = some (t', o)) (k : (∀ h', kR h' t' s → kE o Q h')) : zz_J zp_P zt_tf zt_fd X d zm_176 0 [(0, .ref 2)] [] h Q := by
  unfold cf_176_0 at hf
  obtain ⟨d', rfl⟩ : ∃ d', d = d' + 1 := ⟨d - 1, by omega⟩
  refine cb_176_0 hR  (fun {h} hR => ?_)
  rcases ko_call_ok hf with ⟨g1, v1, er, hf⟩ | ⟨g1, er, hq⟩
  · obtain ⟨hv, hf2⟩ := co_v_ok hf
    clear hf
    have hf := hf2
    clear hf2
    subst hv
    refine cr_201 (by omega) hR er (fun h hR => ?_)
    exact cr_176_6 hrk hB hd hR hf k
  · refine cr_201 (by omega) hR er (fun h hR => ?_)
    exact ko_thrown hq hR k
/-- block -/
def cf_176 (N : Nat) (X : Nat → Option zz_C) (rk : Nat → List Value → cS → kO)  (t : cS) : kO := cf_176_0 N X rk  t
theorem cr_176 {X : Nat → Option zz_C} {s : mS} {N : Nat} {rk : Nat → List Value → cS → kO} {D : Nat} (hrk : cK1 X s D rk) (hB : 162 ≤ D) {d : Nat} (hd : D + 1 ≤ d) {Q : zz_O → zz_H → Prop}  {h : zz_H} {t t' : cS} {o : kY} (hR : kR h t s) (hf : cf_176 N X rk  t = some (t', o)) (k : ∀ h', kR h' t' s → kE o Q h') : zz_J zp_P zt_tf zt_fd X d zm_176 0 [(0, .ref 2)] [] h Q := by
  unfold cf_176 at hf
  exact zz_J.weak (cr_176_0 hrk hB hd hR hf k) rfl ⟨rfl, trivial⟩
/-! yX5_statement -/
theorem cb_177_0 {X : Nat → Option zz_C} {h : zz_H} {t : cS} {s : mS} {d : Nat} {Q : zz_O → zz_H → Prop}  (hR : kR h t s) (k : ∀ {h : zz_H}, kR h t s → zz_J zp_P zt_tf zt_fd X d zm_243 0 [(0, .ref 3)] [] h (zz_after 10 Q (fun v h' => zz_J zp_P zt_tf zt_fd X (d + 1) zm_177 7 [(0, .ref 2)] (v.toList ++ []) h' Q))) : zz_J zp_P zt_tf zt_fd X (d + 1) zm_177 0 [(0, .ref 2)] [] h Q := by
  refine zz_J.n 1 rfl rfl rfl ?_
  refine zz_J.g 4 rfl (hR.gv (v := .ref 3) ko_2 (by decide) rfl) rfl ?_
  refine zz_J.cv 7 (as := []) rfl rfl (hR.clO ko_3 (by decide) (by decide)) (by decide) (Nat.le_of_ble_eq_true rfl) (Nat.le_of_ble_eq_true rfl) rfl (Nat.le_of_ble_eq_true rfl) rfl ?_
  refine zz_J.mono (k hR) ?_
  intro o h' hE
  cases o with
  | inl v => exact zz_J.weak hE rfl ⟨rfl, trivial⟩
  | inr q => exact hE
theorem cb_177_7 {X : Nat → Option zz_C} {h : zz_H} {t : cS} {s : mS} {d : Nat} {Q : zz_O → zz_H → Prop} {y0 : Int32} (hR : kR h t s) (k : ∀ {h : zz_H}, kR h t s → zz_J zp_P zt_tf zt_fd X d zm_42 0 [(0, .ref 3)] [] h (zz_after 10 Q (fun v h' => zz_J zp_P zt_tf zt_fd X (d + 1) zm_177 15 [(0, .ref 2), (1, .int y0)] (v.toList ++ []) h' Q))) : zz_J zp_P zt_tf zt_fd X (d + 1) zm_177 7 [(0, .ref 2)] [.int y0] h Q := by
  refine zz_J.n 8 rfl rfl rfl ?_
  refine zz_J.n 9 rfl rfl rfl ?_
  refine zz_J.g 12 rfl (hR.gv (v := .ref 3) ko_2 (by decide) rfl) rfl ?_
  refine zz_J.cv 15 (as := []) rfl rfl (hR.clO ko_3 (by decide) (by decide)) (by decide) (Nat.le_of_ble_eq_true rfl) (Nat.le_of_ble_eq_true rfl) rfl (Nat.le_of_ble_eq_true rfl) rfl ?_
  refine zz_J.mono (k hR) ?_
  intro o h' hE
  cases o with
  | inl v => exact zz_J.weak hE rfl ⟨rfl, rfl, trivial⟩
  | inr q => exact hE
theorem cb_177_15 {X : Nat → Option zz_C} {h : zz_H} {t : cS} {s : mS} {d : Nat} {Q : zz_O → zz_H → Prop} {x1 : Int32} {y0 : Int32} (hR : kR h t s) (k1 : y0 = 3 → (∀ {h : zz_H}, kR h t s → zz_J zp_P zt_tf zt_fd X d zm_177 27 [(0, .ref 2), (1, .int x1), (2, .int y0)] [.ref 2] h Q)) (k2 : ¬ y0 = 3 → (∀ {h : zz_H}, kR h t s → zz_J zp_P zt_tf zt_fd X d zm_177 22 [(0, .ref 2), (1, .int x1), (2, .int y0)] [.ref 2] h Q)) : zz_J zp_P zt_tf zt_fd X d zm_177 15 [(0, .ref 2), (1, .int x1)] [.int y0] h Q := by
  refine zz_J.n 16 rfl rfl rfl ?_
  refine zz_J.n 17 rfl rfl rfl ?_
  refine zz_J.n 18 rfl rfl rfl ?_
  refine zz_J.c 19 (.int 3) rfl rfl rfl rfl ?_
  refine zz_J.b2 27 22 (A := y0 = 3) rfl rfl (by decide) rfl rfl (fun c => ?_) (fun c => ?_)
  · exact zz_J.weak (k1 c hR) rfl ⟨rfl, rfl, rfl, trivial⟩
  · exact zz_J.weak (k2 c hR) rfl ⟨rfl, rfl, rfl, trivial⟩
theorem cb_177_22 {X : Nat → Option zz_C} {h : zz_H} {t : cS} {s : mS} {d : Nat} {Q : zz_O → zz_H → Prop} {x1 : Int32} {x2 : Int32} (hR : kR h t s) (k1 : ¬ x2 = 4 → (∀ {h : zz_H}, kR h t s → zz_J zp_P zt_tf zt_fd X d zm_177 31 [(0, .ref 2), (1, .int x1), (2, .int x2)] [.ref 2] h Q)) (k2 : ¬ ¬ x2 = 4 → (∀ {h : zz_H}, kR h t s → zz_J zp_P zt_tf zt_fd X d zm_177 27 [(0, .ref 2), (1, .int x1), (2, .int x2)] [.ref 2] h Q)) : zz_J zp_P zt_tf zt_fd X d zm_177 22 [(0, .ref 2), (1, .int x1), (2, .int x2)] [.ref 2] h Q := by
  refine zz_J.n 23 rfl rfl rfl ?_
  refine zz_J.c 24 (.int 4) rfl rfl rfl rfl ?_
  refine zz_J.b2 31 27 (A := ¬ x2 = 4) rfl (zz_cond_ne _ _) (by decide) rfl rfl (fun c => ?_) (fun c => ?_)
  · exact zz_J.weak (k1 c hR) rfl ⟨rfl, rfl, rfl, trivial⟩
  · exact zz_J.weak (k2 c hR) rfl ⟨rfl, rfl, rfl, trivial⟩
theorem cb_177_27 {X : Nat → Option zz_C} {h : zz_H} {t : cS} {s : mS} {d : Nat} {Q : zz_O → zz_H → Prop} {x1 : Int32} {x2 : Int32} (hR : kR h t s) (k : ∀ {h : zz_H}, kR h t s → zz_J zp_P zt_tf zt_fd X d zm_177 32 [(0, .ref 2), (1, .int x1), (2, .int x2)] [.int 1, .ref 2] h Q) : zz_J zp_P zt_tf zt_fd X d zm_177 27 [(0, .ref 2), (1, .int x1), (2, .int x2)] [.ref 2] h Q := by
  refine zz_J.c 28 (.int 1) rfl rfl rfl rfl ?_
  refine zz_J.n 32 rfl rfl rfl ?_
  exact zz_J.weak (k hR) rfl ⟨rfl, rfl, rfl, trivial⟩
theorem cb_177_31 {X : Nat → Option zz_C} {h : zz_H} {t : cS} {s : mS} {d : Nat} {Q : zz_O → zz_H → Prop} {x1 : Int32} {x2 : Int32} (hR : kR h t s) (k : ∀ {h : zz_H}, kR h t s → zz_J zp_P zt_tf zt_fd X d zm_177 32 [(0, .ref 2), (1, .int x1), (2, .int x2)] [.int 0, .ref 2] h Q) : zz_J zp_P zt_tf zt_fd X d zm_177 31 [(0, .ref 2), (1, .int x1), (2, .int x2)] [.ref 2] h Q := by
  refine zz_J.c 32 (.int 0) rfl rfl rfl rfl ?_
  exact zz_J.weak (k hR) rfl ⟨rfl, rfl, rfl, trivial⟩
theorem cb_177_32 {X : Nat → Option zz_C} {h : zz_H} {t : cS} {s : mS} {d : Nat} {Q : zz_O → zz_H → Prop} {x1 : Int32} {x2 : Int32} {y1 : Int32} (hR : kR h t s) (k : ∀ {h : zz_H}, kR h t s → zz_J zp_P zt_tf zt_fd X d zm_202 0 [(0, .ref 2), (1, .int y1), (2, .int 2)] [] h (zz_after 5 Q (fun v h' => zz_J zp_P zt_tf zt_fd X (d + 1) zm_177 36 [(0, .ref 2), (1, .int x1), (2, .int x2)] (v.toList ++ []) h' Q))) : zz_J zp_P zt_tf zt_fd X (d + 1) zm_177 32 [(0, .ref 2), (1, .int x1), (2, .int x2)] [.int y1, .ref 2] h Q := by
  refine zz_J.c 33 (.int 2) rfl rfl rfl rfl ?_
  refine zz_J.cv 36 (as := []) rfl rfl (hR.clO ko_2 (by decide) (by decide)) (by decide) (Nat.le_of_ble_eq_true rfl) (Nat.le_of_ble_eq_true rfl) rfl (Nat.le_of_ble_eq_true rfl) rfl ?_
  refine zz_J.mono (k hR) ?_
  intro o h' hE
  cases o with
  | inl v => exact zz_J.weak hE rfl ⟨rfl, rfl, rfl, trivial⟩
  | inr q => exact hE
theorem cb_177_36 {X : Nat → Option zz_C} {h : zz_H} {t : cS} {s : mS} {d : Nat} {Q : zz_O → zz_H → Prop} {x1 : Int32} {x2 : Int32} (hR : kR h t s) {w0 : Nat} (e0 : (kP t 2 1) = some w0) (e1 : w0 = 12 ∨ w0 = 21) (k : ∀ {h : zz_H}, kR h t s → zz_J zp_P zt_tf zt_fd X d zm_209 0 [(0, .ref w0), (1, .int 26), (2, .int 0), (3, .int x1)] [] h (zz_after 6 Q (fun v h' => zz_J zp_P zt_tf zt_fd X (d + 1) zm_177 47 [(0, .ref 2), (1, .int x1), (2, .int x2)] (v.toList ++ []) h' Q))) : zz_J zp_P zt_tf zt_fd X (d + 1) zm_177 36 [(0, .ref 2), (1, .int x1), (2, .int x2)] [] h Q := by
  refine zz_J.n 37 rfl rfl rfl ?_
  refine zz_J.g 40 rfl (hR.gv (v := .ref w0) ko_2 (by decide) ((congrArg (fun q => some (zz_rv q)) e0).trans rfl)) rfl ?_
  refine zz_J.c 42 (.int 26) rfl rfl rfl rfl ?_
  refine zz_J.c 43 (.int 0) rfl rfl rfl rfl ?_
  refine zz_J.n 44 rfl rfl rfl ?_
  refine zz_J.cv 47 (as := []) rfl rfl (hR.clO (ko_P e1) (by decide) (by decide)) (by decide) (Nat.le_of_ble_eq_true rfl) (Nat.le_of_ble_eq_true rfl) rfl (Nat.le_of_ble_eq_true rfl) rfl ?_
  refine zz_J.mono (k hR) ?_
  intro o h' hE
  cases o with
  | inl v => exact zz_J.weak hE rfl ⟨rfl, rfl, rfl, trivial⟩
  | inr q => exact hE
theorem cb_177_47 {X : Nat → Option zz_C} {h : zz_H} {t : cS} {s : mS} {d : Nat} {Q : zz_O → zz_H → Prop} {x1 : Int32} {x2 : Int32} {y0 : Int32} (hR : kR h t s) (k1 : ¬ x2 = 3 → (∀ {h : zz_H}, kR h t s → zz_J zp_P zt_tf zt_fd X d zm_177 74 [(0, .ref 2), (1, .int x1), (2, .int x2)] [] h Q)) (k2 : ¬ ¬ x2 = 3 → (∀ {h : zz_H}, kR h t s → zz_J zp_P zt_tf zt_fd X d zm_177 53 [(0, .ref 2), (1, .int x1), (2, .int x2)] [] h Q)) : zz_J zp_P zt_tf zt_fd X d zm_177 47 [(0, .ref 2), (1, .int x1), (2, .int x2)] [.int y0] h Q := by
  refine zz_J.n 48 rfl rfl rfl ?_
  refine zz_J.n 49 rfl rfl rfl ?_
  refine zz_J.c 50 (.int 3) rfl rfl rfl rfl ?_
  refine zz_J.b2 74 53 (A := ¬ x2 = 3) rfl (zz_cond_ne _ _) (by decide) rfl rfl (fun c => ?_) (fun c => ?_)
  · exact zz_J.weak (k1 c hR) rfl ⟨rfl, rfl, rfl, trivial⟩
  · exact zz_J.weak (k2 c hR) rfl ⟨rfl, rfl, rfl, trivial⟩
theorem cb_177_53 {X : Nat → Option zz_C} {h : zz_H} {t : cS} {s : mS} {d : Nat} {Q : zz_O → zz_H → Prop} {x1 : Int32} {x2 : Int32} (hR : kR h t s) (k : ∀ {h : zz_H}, kR h t s → zz_J zp_P zt_tf zt_fd X d zm_242 0 [(0, .ref 3)] [] h (zz_after 10 Q (fun v h' => zz_J zp_P zt_tf zt_fd X (d + 1) zm_177 60 [(0, .ref 2), (1, .int x1), (2, .int x2)] (v.toList ++ []) h' Q))) : zz_J zp_P zt_tf zt_fd X (d + 1) zm_177 53 [(0, .ref 2), (1, .int x1), (2, .int x2)] [] h Q := by
  refine zz_J.n 54 rfl rfl rfl ?_
  refine zz_J.g 57 rfl (hR.gv (v := .ref 3) ko_2 (by decide) rfl) rfl ?_
  refine zz_J.cv 60 (as := []) rfl rfl (hR.clO ko_3 (by decide) (by decide)) (by decide) (Nat.le_of_ble_eq_true rfl) (Nat.le_of_ble_eq_true rfl) rfl (Nat.le_of_ble_eq_true rfl) rfl ?_
  refine zz_J.mono (k hR) ?_
  intro o h' hE
  cases o with
  | inl v => exact zz_J.weak hE rfl ⟨rfl, rfl, rfl, trivial⟩
  | inr q => exact hE
theorem cb_177_60 {X : Nat → Option zz_C} {h : zz_H} {t : cS} {s : mS} {d : Nat} {Q : zz_O → zz_H → Prop} {x1 : Int32} {x2 : Int32} {y0 : Int32} (hR : kR h t s) (k1 : ¬ y0 = 40 → (∀ {h : zz_H}, kR h t s → zz_J zp_P zt_tf zt_fd X d zm_177 74 [(0, .ref 2), (1, .int x1), (2, .int x2)] [] h Q)) (k2 : ¬ ¬ y0 = 40 → (∀ {h : zz_H}, kR h t s → zz_J zp_P zt_tf zt_fd X d zm_177 65 [(0, .ref 2)] [] h Q)) : zz_J zp_P zt_tf zt_fd X d zm_177 60 [(0, .ref 2), (1, .int x1), (2, .int x2)] [.int y0] h Q := by
  refine zz_J.c 62 (.int 40) rfl rfl rfl rfl ?_
  refine zz_J.b2 74 65 (A := ¬ y0 = 40) rfl (zz_cond_ne _ _) (by decide) rfl rfl (fun c => ?_) (fun c => ?_)
  · exact zz_J.weak (k1 c hR) rfl ⟨rfl, rfl, rfl, trivial⟩
  · exact zz_J.weak (k2 c hR) rfl ⟨rfl, trivial⟩
theorem cb_177_65 {X : Nat → Option zz_C} {h : zz_H} {t : cS} {s : mS} {d : Nat} {Q : zz_O → zz_H → Prop}  (hR : kR h t s) (k : ∀ {h : zz_H}, kR h t s → zz_J zp_P zt_tf zt_fd X d zm_191 0 [(0, .ref 2)] [] h (zz_after 5 Q (fun v h' => zz_J zp_P zt_tf zt_fd X (d + 1) zm_177 69 [(0, .ref 2)] (v.toList ++ []) h' Q))) : zz_J zp_P zt_tf zt_fd X (d + 1) zm_177 65 [(0, .ref 2)] [] h Q := by
  refine zz_J.n 66 rfl rfl rfl ?_
  refine zz_J.cv 69 (as := []) rfl rfl (hR.clO ko_2 (by decide) (by decide)) (by decide) (Nat.le_of_ble_eq_true rfl) (Nat.le_of_ble_eq_true rfl) rfl (Nat.le_of_ble_eq_true rfl) rfl ?_
  refine zz_J.mono (k hR) ?_
  intro o h' hE
  cases o with
  | inl v => exact zz_J.weak hE rfl ⟨rfl, trivial⟩
  | inr q => exact hE
theorem cb_177_69 {X : Nat → Option zz_C} {h : zz_H} {t : cS} {s : mS} {d : Nat} {Q : zz_O → zz_H → Prop}  (hR : kR h t s) (k : ∀ {h : zz_H}, kR h t s → zz_J zp_P zt_tf zt_fd X d zm_178 0 [(0, .ref 2)] [] h (zz_after 5 Q (fun v h' => zz_J zp_P zt_tf zt_fd X (d + 1) zm_177 73 [] (v.toList ++ []) h' Q))) : zz_J zp_P zt_tf zt_fd X (d + 1) zm_177 69 [(0, .ref 2)] [] h Q := by
  refine zz_J.n 70 rfl rfl rfl ?_
  refine zz_J.cv 73 (as := []) rfl rfl (hR.clO ko_2 (by decide) (by decide)) (by decide) (Nat.le_of_ble_eq_true rfl) (Nat.le_of_ble_eq_true rfl) rfl (Nat.le_of_ble_eq_true rfl) rfl ?_
  refine zz_J.mono (k hR) ?_
  intro o h' hE
  cases o with
  | inl v => exact zz_J.weak hE rfl trivial
  | inr q => exact hE
theorem cb_177_73 {X : Nat → Option zz_C} {h : zz_H} {t : cS} {s : mS} {d : Nat} {Q : zz_O → zz_H → Prop}  (hR : kR h t s) (k : ∀ {h : zz_H}, kR h t s → Q (.inl none) h) : zz_J zp_P zt_tf zt_fd X d zm_177 73 [] [] h Q := by
  refine zz_J.ret rfl rfl rfl ?_
  exact k hR
theorem cb_177_74 {X : Nat → Option zz_C} {h : zz_H} {t : cS} {s : mS} {d : Nat} {Q : zz_O → zz_H → Prop} {x1 : Int32} {x2 : Int32} (hR : kR h t s) (k1 : ¬ x2 = 3 → (∀ {h : zz_H}, kR h t s → zz_J zp_P zt_tf zt_fd X d zm_177 84 [(0, .ref 2), (1, .int x1)] [] h Q)) (k2 : ¬ ¬ x2 = 3 → (∀ {h : zz_H}, kR h t s → zz_J zp_P zt_tf zt_fd X d zm_177 79 [(0, .ref 2)] [] h Q)) : zz_J zp_P zt_tf zt_fd X d zm_177 74 [(0, .ref 2), (1, .int x1), (2, .int x2)] [] h Q := by
  refine zz_J.n 75 rfl rfl rfl ?_
  refine zz_J.c 76 (.int 3) rfl rfl rfl rfl ?_
  refine zz_J.b2 84 79 (A := ¬ x2 = 3) rfl (zz_cond_ne _ _) (by decide) rfl rfl (fun c => ?_) (fun c => ?_)
  · exact zz_J.weak (k1 c hR) rfl ⟨rfl, rfl, trivial⟩
  · exact zz_J.weak (k2 c hR) rfl ⟨rfl, trivial⟩
theorem cb_177_79 {X : Nat → Option zz_C} {h : zz_H} {t : cS} {s : mS} {d : Nat} {Q : zz_O → zz_H → Prop}  (hR : kR h t s) (k : ∀ {h : zz_H}, kR h t s → zz_J zp_P zt_tf zt_fd X d zm_180 0 [(0, .ref 2)] [] h (zz_after 5 Q (fun v h' => zz_J zp_P zt_tf zt_fd X (d + 1) zm_177 83 [] (v.toList ++ []) h' Q))) : zz_J zp_P zt_tf zt_fd X (d + 1) zm_177 79 [(0, .ref 2)] [] h Q := by
  refine zz_J.n 80 rfl rfl rfl ?_
  refine zz_J.cv 83 (as := []) rfl rfl (hR.clO ko_2 (by decide) (by decide)) (by decide) (Nat.le_of_ble_eq_true rfl) (Nat.le_of_ble_eq_true rfl) rfl (Nat.le_of_ble_eq_true rfl) rfl ?_
  refine zz_J.mono (k hR) ?_
  intro o h' hE
  cases o with
  | inl v => exact zz_J.weak hE rfl trivial
  | inr q => exact hE
theorem cb_177_83 {X : Nat → Option zz_C} {h : zz_H} {t : cS} {s : mS} {d : Nat} {Q : zz_O → zz_H → Prop}  (hR : kR h t s) (k : ∀ {h : zz_H}, kR h t s → Q (.inl none) h) : zz_J zp_P zt_tf zt_fd X d zm_177 83 [] [] h Q := by
  refine zz_J.ret rfl rfl rfl ?_
  exact k hR
theorem cb_177_84 {X : Nat → Option zz_C} {h : zz_H} {t : cS} {s : mS} {d : Nat} {Q : zz_O → zz_H → Prop} {x1 : Int32} (hR : kR h t s) (k : ∀ {h : zz_H}, kR h t s → zz_J zp_P zt_tf zt_fd X d zm_199 0 [(0, .ref 2)] [] h (zz_after 5 Q (fun v h' => zz_J zp_P zt_tf zt_fd X (d + 1) zm_177 88 [(0, .ref 2), (1, .int x1)] (v.toList ++ []) h' Q))) : zz_J zp_P zt_tf zt_fd X (d + 1) zm_177 84 [(0, .ref 2), (1, .int x1)] [] h Q := by
  refine zz_J.n 85 rfl rfl rfl ?_
  refine zz_J.cv 88 (as := []) rfl rfl (hR.clO ko_2 (by decide) (by decide)) (by decide) (Nat.le_of_ble_eq_true rfl) (Nat.le_of_ble_eq_true rfl) rfl (Nat.le_of_ble_eq_true rfl) rfl ?_
  refine zz_J.mono (k hR) ?_
  intro o h' hE
  cases o with
  | inl v => exact zz_J.weak hE rfl ⟨rfl, rfl, trivial⟩
  | inr q => exact hE
theorem cb_177_88 {X : Nat → Option zz_C} {h : zz_H} {t : cS} {s : mS} {d : Nat} {Q : zz_O → zz_H → Prop} {x1 : Int32} {y0 : Nat} (hR : kR h t s) (e0 : ¬ y0 < zz_out) (e1 : hcl X [] y0 20 = true) (k : ∀ {h : zz_H}, kR h t s → zz_J zp_P zt_tf zt_fd X d zm_356 0 [(0, .ref y0)] [] h (zz_after 20 Q (fun v h' => zz_J zp_P zt_tf zt_fd X (d + 1) zm_177 96 [(0, .ref 2), (1, .int x1), (3, .ref y0)] (v.toList ++ [.ref (zz_out + 43)]) h' Q))) : zz_J zp_P zt_tf zt_fd X (d + 1) zm_177 88 [(0, .ref 2), (1, .int x1)] [.ref y0] h Q := by
  refine zz_J.n 89 rfl rfl rfl ?_
  refine zz_J.c 92 (.ref (zz_out + 43)) rfl rfl rfl rfl ?_
  refine zz_J.n 93 rfl rfl rfl ?_
  refine zz_J.cv 96 (as := [.ref (zz_out + 43)]) rfl rfl ((hx_cl e0).trans e1) (by decide) (Nat.le_of_ble_eq_true rfl) (Nat.le_of_ble_eq_true rfl) rfl (Nat.le_of_ble_eq_true rfl) rfl ?_
  refine zz_J.mono (k hR) ?_
  intro o h' hE
  cases o with
  | inl v => exact zz_J.weak hE rfl ⟨rfl, rfl, rfl, trivial⟩
  | inr q => exact hE
theorem cb_177_96 {X : Nat → Option zz_C} {h : zz_H} {t : cS} {s : mS} {d : Nat} {Q : zz_O → zz_H → Prop} {x1 : Int32} {x3 : Nat} {y1 : Int32} (hR : kR h t s) {w0 : Int32} (e0 : hai X [] (zz_out + 43) y1 = some w0) (c1 : w0 = 1 → (∀ {h : zz_H}, kR h t s → zz_J zp_P zt_tf zt_fd X d zm_177 140 [(0, .ref 2), (1, .int x1)] [] h Q)) (c2 : w0 = 2 → (∀ {h : zz_H}, kR h t s → zz_J zp_P zt_tf zt_fd X d zm_177 148 [(0, .ref 2), (1, .int x1)] [] h Q)) (c3 : w0 = 3 → (∀ {h : zz_H}, kR h t s → zz_J zp_P zt_tf zt_fd X d zm_177 156 [(0, .ref 2), (1, .int x1)] [] h Q)) (c4 : w0 = 4 → (∀ {h : zz_H}, kR h t s → zz_J zp_P zt_tf zt_fd X d zm_177 164 [(0, .ref 2), (1, .int x1)] [] h Q)) (c5 : w0 = 5 → (∀ {h : zz_H}, kR h t s → zz_J zp_P zt_tf zt_fd X d zm_177 174 [(0, .ref 2), (1, .int x1)] [] h Q)) (c6 : w0 = 6 → (∀ {h : zz_H}, kR h t s → zz_J zp_P zt_tf zt_fd X d zm_177 184 [(0, .ref 2), (1, .int x1)] [] h Q)) (c7 : w0 = 7 → (∀ {h : zz_H}, kR h t s → zz_J zp_P zt_tf zt_fd X d zm_177 194 [(0, .ref 2)] [] h Q)) (kd : (Int32.toInt w0 < 1 ∨ 7 < Int32.toInt w0) → (∀ {h : zz_H}, kR h t s → zz_J zp_P zt_tf zt_fd X d zm_177 201 [(0, .ref 2), (3, .ref x3)] [] h Q)) : zz_J zp_P zt_tf zt_fd X d zm_177 96 [(0, .ref 2), (1, .int x1), (3, .ref x3)] [.int y1, .ref (zz_out + 43)] h Q := by
  refine zz_J.ai 97 rfl ((hx_ai (Nat.not_lt.mpr (Nat.le_add_right _ _))).trans e0) rfl ?_
  by_cases hx : Int32.toInt w0 < 1 ∨ 7 < Int32.toInt w0
  · exact zz_J.td 201 rfl hx (by decide) rfl (zz_J.weak (kd hx hR) rfl ⟨rfl, rfl, trivial⟩)
  · have hv : Int32.toInt w0 = 1 ∨ Int32.toInt w0 = 2 ∨ Int32.toInt w0 = 3 ∨ Int32.toInt w0 = 4 ∨ Int32.toInt w0 = 5 ∨ Int32.toInt w0 = 6 ∨ Int32.toInt w0 = 7 := by omega
    rcases hv with hv | hv | hv | hv | hv | hv | hv
    · have e : w0 = 1 := Int32.toInt_inj.mp (hv.trans rfl)
      exact zz_J.tv 140 rfl e rfl (zz_J.weak (c1 e hR) rfl ⟨rfl, rfl, trivial⟩)
    · have e : w0 = 2 := Int32.toInt_inj.mp (hv.trans rfl)
      exact zz_J.tv 148 rfl e rfl (zz_J.weak (c2 e hR) rfl ⟨rfl, rfl, trivial⟩)
    · have e : w0 = 3 := Int32.toInt_inj.mp (hv.trans rfl)
      exact zz_J.tv 156 rfl e rfl (zz_J.weak (c3 e hR) rfl ⟨rfl, rfl, trivial⟩)
    · have e : w0 = 4 := Int32.toInt_inj.mp (hv.trans rfl)
      exact zz_J.tv 164 rfl e rfl (zz_J.weak (c4 e hR) rfl ⟨rfl, rfl, trivial⟩)
    · have e : w0 = 5 := Int32.toInt_inj.mp (hv.trans rfl)
      exact zz_J.tv 174 rfl e rfl (zz_J.weak (c5 e hR) rfl ⟨rfl, rfl, trivial⟩)
    · have e : w0 = 6 := Int32.toInt_inj.mp (hv.trans rfl)
      exact zz_J.tv 184 rfl e rfl (zz_J.weak (c6 e hR) rfl ⟨rfl, rfl, trivial⟩)
    · have e : w0 = 7 := Int32.toInt_inj.mp (hv.trans rfl)
      exact zz_J.tv 194 rfl e rfl (zz_J.weak (c7 e hR) rfl ⟨rfl, trivial⟩)
theorem cb_177_140 {X : Nat → Option zz_C} {h : zz_H} {t : cS} {s : mS} {d : Nat} {Q : zz_O → zz_H → Prop} {x1 : Int32} (hR : kR h t s) (k : ∀ {h : zz_H}, kR h t s → zz_J zp_P zt_tf zt_fd X d zm_181 0 [(0, .ref 2), (1, .int x1)] [] h (zz_after 5 Q (fun v h' => zz_J zp_P zt_tf zt_fd X (d + 1) zm_177 145 [] (v.toList ++ []) h' Q))) : zz_J zp_P zt_tf zt_fd X (d + 1) zm_177 140 [(0, .ref 2), (1, .int x1)] [] h Q := by
  refine zz_J.n 141 rfl rfl rfl ?_
  refine zz_J.n 142 rfl rfl rfl ?_
  refine zz_J.cv 145 (as := []) rfl rfl (hR.clO ko_2 (by decide) (by decide)) (by decide) (Nat.le_of_ble_eq_true rfl) (Nat.le_of_ble_eq_true rfl) rfl (Nat.le_of_ble_eq_true rfl) rfl ?_
  refine zz_J.mono (k hR) ?_
  intro o h' hE
  cases o with
  | inl v => exact zz_J.weak hE rfl trivial
  | inr q => exact hE
theorem cb_177_145 {X : Nat → Option zz_C} {h : zz_H} {t : cS} {s : mS} {d : Nat} {Q : zz_O → zz_H → Prop}  (hR : kR h t s) (k : ∀ {h : zz_H}, kR h t s → zz_J zp_P zt_tf zt_fd X d zm_177 210 [] [] h Q) : zz_J zp_P zt_tf zt_fd X d zm_177 145 [] [] h Q := by
  refine zz_J.n 210 rfl rfl rfl ?_
  exact zz_J.weak (k hR) rfl trivial
theorem cb_177_148 {X : Nat → Option zz_C} {h : zz_H} {t : cS} {s : mS} {d : Nat} {Q : zz_O → zz_H → Prop} {x1 : Int32} (hR : kR h t s) (k : ∀ {h : zz_H}, kR h t s → zz_J zp_P zt_tf zt_fd X d zm_182 0 [(0, .ref 2), (1, .int x1)] [] h (zz_after 5 Q (fun v h' => zz_J zp_P zt_tf zt_fd X (d + 1) zm_177 153 [] (v.toList ++ []) h' Q))) : zz_J zp_P zt_tf zt_fd X (d + 1) zm_177 148 [(0, .ref 2), (1, .int x1)] [] h Q := by
  refine zz_J.n 149 rfl rfl rfl ?_
  refine zz_J.n 150 rfl rfl rfl ?_
  refine zz_J.cv 153 (as := []) rfl rfl (hR.clO ko_2 (by decide) (by decide)) (by decide) (Nat.le_of_ble_eq_true rfl) (Nat.le_of_ble_eq_true rfl) rfl (Nat.le_of_ble_eq_true rfl) rfl ?_
  refine zz_J.mono (k hR) ?_
  intro o h' hE
  cases o with
  | inl v => exact zz_J.weak hE rfl trivial
  | inr q => exact hE
theorem cb_177_153 {X : Nat → Option zz_C} {h : zz_H} {t : cS} {s : mS} {d : Nat} {Q : zz_O → zz_H → Prop}  (hR : kR h t s) (k : ∀ {h : zz_H}, kR h t s → zz_J zp_P zt_tf zt_fd X d zm_177 210 [] [] h Q) : zz_J zp_P zt_tf zt_fd X d zm_177 153 [] [] h Q := by
  refine zz_J.n 210 rfl rfl rfl ?_
  exact zz_J.weak (k hR) rfl trivial
theorem cb_177_156 {X : Nat → Option zz_C} {h : zz_H} {t : cS} {s : mS} {d : Nat} {Q : zz_O → zz_H → Prop} {x1 : Int32} (hR : kR h t s) (k : ∀ {h : zz_H}, kR h t s → zz_J zp_P zt_tf zt_fd X d zm_184 0 [(0, .ref 2), (1, .int x1)] [] h (zz_after 5 Q (fun v h' => zz_J zp_P zt_tf zt_fd X (d + 1) zm_177 161 [] (v.toList ++ []) h' Q))) : zz_J zp_P zt_tf zt_fd X (d + 1) zm_177 156 [(0, .ref 2), (1, .int x1)] [] h Q := by
  refine zz_J.n 157 rfl rfl rfl ?_
  refine zz_J.n 158 rfl rfl rfl ?_
  refine zz_J.cv 161 (as := []) rfl rfl (hR.clO ko_2 (by decide) (by decide)) (by decide) (Nat.le_of_ble_eq_true rfl) (Nat.le_of_ble_eq_true rfl) rfl (Nat.le_of_ble_eq_true rfl) rfl ?_
  refine zz_J.mono (k hR) ?_
  intro o h' hE
  cases o with
  | inl v => exact zz_J.weak hE rfl trivial
  | inr q => exact hE
theorem cb_177_161 {X : Nat → Option zz_C} {h : zz_H} {t : cS} {s : mS} {d : Nat} {Q : zz_O → zz_H → Prop}  (hR : kR h t s) (k : ∀ {h : zz_H}, kR h t s → zz_J zp_P zt_tf zt_fd X d zm_177 210 [] [] h Q) : zz_J zp_P zt_tf zt_fd X d zm_177 161 [] [] h Q := by
  refine zz_J.n 210 rfl rfl rfl ?_
  exact zz_J.weak (k hR) rfl trivial
theorem cb_177_164 {X : Nat → Option zz_C} {h : zz_H} {t : cS} {s : mS} {d : Nat} {Q : zz_O → zz_H → Prop} {x1 : Int32} (hR : kR h t s) (k : ∀ {h : zz_H}, kR h t s → zz_J zp_P zt_tf zt_fd X d zm_179 0 [(0, .ref 2), (1, .int 7), (2, .int x1)] [] h (zz_after 5 Q (fun v h' => zz_J zp_P zt_tf zt_fd X (d + 1) zm_177 171 [] (v.toList ++ []) h' Q))) : zz_J zp_P zt_tf zt_fd X (d + 1) zm_177 164 [(0, .ref 2), (1, .int x1)] [] h Q := by
  refine zz_J.n 165 rfl rfl rfl ?_
  refine zz_J.c 167 (.int 7) rfl rfl rfl rfl ?_
  refine zz_J.n 168 rfl rfl rfl ?_
  refine zz_J.cv 171 (as := []) rfl rfl (hR.clO ko_2 (by decide) (by decide)) (by decide) (Nat.le_of_ble_eq_true rfl) (Nat.le_of_ble_eq_true rfl) rfl (Nat.le_of_ble_eq_true rfl) rfl ?_
  refine zz_J.mono (k hR) ?_
  intro o h' hE
  cases o with
  | inl v => exact zz_J.weak hE rfl trivial
  | inr q => exact hE
theorem cb_177_171 {X : Nat → Option zz_C} {h : zz_H} {t : cS} {s : mS} {d : Nat} {Q : zz_O → zz_H → Prop}  (hR : kR h t s) (k : ∀ {h : zz_H}, kR h t s → zz_J zp_P zt_tf zt_fd X d zm_177 210 [] [] h Q) : zz_J zp_P zt_tf zt_fd X d zm_177 171 [] [] h Q := by
  refine zz_J.n 210 rfl rfl rfl ?_
  exact zz_J.weak (k hR) rfl trivial
theorem cb_177_174 {X : Nat → Option zz_C} {h : zz_H} {t : cS} {s : mS} {d : Nat} {Q : zz_O → zz_H → Prop} {x1 : Int32} (hR : kR h t s) (k : ∀ {h : zz_H}, kR h t s → zz_J zp_P zt_tf zt_fd X d zm_179 0 [(0, .ref 2), (1, .int 8), (2, .int x1)] [] h (zz_after 5 Q (fun v h' => zz_J zp_P zt_tf zt_fd X (d + 1) zm_177 181 [] (v.toList ++ []) h' Q))) : zz_J zp_P zt_tf zt_fd X (d + 1) zm_177 174 [(0, .ref 2), (1, .int x1)] [] h Q := by
  refine zz_J.n 175 rfl rfl rfl ?_
  refine zz_J.c 177 (.int 8) rfl rfl rfl rfl ?_
  refine zz_J.n 178 rfl rfl rfl ?_
  refine zz_J.cv 181 (as := []) rfl rfl (hR.clO ko_2 (by decide) (by decide)) (by decide) (Nat.le_of_ble_eq_true rfl) (Nat.le_of_ble_eq_true rfl) rfl (Nat.le_of_ble_eq_true rfl) rfl ?_
  refine zz_J.mono (k hR) ?_
  intro o h' hE
  cases o with
  | inl v => exact zz_J.weak hE rfl trivial
  | inr q => exact hE
theorem cb_177_181 {X : Nat → Option zz_C} {h : zz_H} {t : cS} {s : mS} {d : Nat} {Q : zz_O → zz_H → Prop}  (hR : kR h t s) (k : ∀ {h : zz_H}, kR h t s → zz_J zp_P zt_tf zt_fd X d zm_177 210 [] [] h Q) : zz_J zp_P zt_tf zt_fd X d zm_177 181 [] [] h Q := by
  refine zz_J.n 210 rfl rfl rfl ?_
  exact zz_J.weak (k hR) rfl trivial
theorem cb_177_184 {X : Nat → Option zz_C} {h : zz_H} {t : cS} {s : mS} {d : Nat} {Q : zz_O → zz_H → Prop} {x1 : Int32} (hR : kR h t s) (k : ∀ {h : zz_H}, kR h t s → zz_J zp_P zt_tf zt_fd X d zm_179 0 [(0, .ref 2), (1, .int 9), (2, .int x1)] [] h (zz_after 5 Q (fun v h' => zz_J zp_P zt_tf zt_fd X (d + 1) zm_177 191 [] (v.toList ++ []) h' Q))) : zz_J zp_P zt_tf zt_fd X (d + 1) zm_177 184 [(0, .ref 2), (1, .int x1)] [] h Q := by
  refine zz_J.n 185 rfl rfl rfl ?_
  refine zz_J.c 187 (.int 9) rfl rfl rfl rfl ?_
  refine zz_J.n 188 rfl rfl rfl ?_
  refine zz_J.cv 191 (as := []) rfl rfl (hR.clO ko_2 (by decide) (by decide)) (by decide) (Nat.le_of_ble_eq_true rfl) (Nat.le_of_ble_eq_true rfl) rfl (Nat.le_of_ble_eq_true rfl) rfl ?_
  refine zz_J.mono (k hR) ?_
  intro o h' hE
  cases o with
  | inl v => exact zz_J.weak hE rfl trivial
  | inr q => exact hE
theorem cb_177_191 {X : Nat → Option zz_C} {h : zz_H} {t : cS} {s : mS} {d : Nat} {Q : zz_O → zz_H → Prop}  (hR : kR h t s) (k : ∀ {h : zz_H}, kR h t s → zz_J zp_P zt_tf zt_fd X d zm_177 210 [] [] h Q) : zz_J zp_P zt_tf zt_fd X d zm_177 191 [] [] h Q := by
  refine zz_J.n 210 rfl rfl rfl ?_
  exact zz_J.weak (k hR) rfl trivial
theorem cb_177_194 {X : Nat → Option zz_C} {h : zz_H} {t : cS} {s : mS} {d : Nat} {Q : zz_O → zz_H → Prop}  (hR : kR h t s) (k : ∀ {h : zz_H}, kR h t s → zz_J zp_P zt_tf zt_fd X d zm_185 0 [(0, .ref 2)] [] h (zz_after 5 Q (fun v h' => zz_J zp_P zt_tf zt_fd X (d + 1) zm_177 198 [] (v.toList ++ []) h' Q))) : zz_J zp_P zt_tf zt_fd X (d + 1) zm_177 194 [(0, .ref 2)] [] h Q := by
  refine zz_J.n 195 rfl rfl rfl ?_
  refine zz_J.cv 198 (as := []) rfl rfl (hR.clO ko_2 (by decide) (by decide)) (by decide) (Nat.le_of_ble_eq_true rfl) (Nat.le_of_ble_eq_true rfl) rfl (Nat.le_of_ble_eq_true rfl) rfl ?_
  refine zz_J.mono (k hR) ?_
  intro o h' hE
  cases o with
  | inl v => exact zz_J.weak hE rfl trivial
  | inr q => exact hE
theorem cb_177_198 {X : Nat → Option zz_C} {h : zz_H} {t : cS} {s : mS} {d : Nat} {Q : zz_O → zz_H → Prop}  (hR : kR h t s) (k : ∀ {h : zz_H}, kR h t s → zz_J zp_P zt_tf zt_fd X d zm_177 210 [] [] h Q) : zz_J zp_P zt_tf zt_fd X d zm_177 198 [] [] h Q := by
  refine zz_J.n 210 rfl rfl rfl ?_
  exact zz_J.weak (k hR) rfl trivial
theorem cb_177_201 {X : Nat → Option zz_C} {h : zz_H} {t : cS} {s : mS} {d : Nat} {Q : zz_O → zz_H → Prop} {x3 : Nat} (hR : kR h t s) (k : ∀ {h : zz_H}, kR h t s → zz_J zp_P zt_tf zt_fd X d zm_192 0 [(0, .ref 2), (1, .ref x3)] [] h (zz_after 5 Q (fun v h' => zz_J zp_P zt_tf zt_fd X (d + 1) zm_177 206 [(0, .ref 2)] (v.toList ++ []) h' Q))) : zz_J zp_P zt_tf zt_fd X (d + 1) zm_177 201 [(0, .ref 2), (3, .ref x3)] [] h Q := by
  refine zz_J.n 202 rfl rfl rfl ?_
  refine zz_J.n 203 rfl rfl rfl ?_
  refine zz_J.cv 206 (as := []) rfl rfl (hR.clO ko_2 (by decide) (by decide)) (by decide) (Nat.le_of_ble_eq_true rfl) (Nat.le_of_ble_eq_true rfl) rfl (Nat.le_of_ble_eq_true rfl) rfl ?_
  refine zz_J.mono (k hR) ?_
  intro o h' hE
  cases o with
  | inl v => exact zz_J.weak hE rfl ⟨rfl, trivial⟩
  | inr q => exact hE
theorem cb_177_206 {X : Nat → Option zz_C} {h : zz_H} {t : cS} {s : mS} {d : Nat} {Q : zz_O → zz_H → Prop}  (hR : kR h t s) (k : ∀ {h : zz_H}, kR h t s → zz_J zp_P zt_tf zt_fd X d zm_178 0 [(0, .ref 2)] [] h (zz_after 5 Q (fun v h' => zz_J zp_P zt_tf zt_fd X (d + 1) zm_177 210 [] (v.toList ++ []) h' Q))) : zz_J zp_P zt_tf zt_fd X (d + 1) zm_177 206 [(0, .ref 2)] [] h Q := by
  refine zz_J.n 207 rfl rfl rfl ?_
  refine zz_J.cv 210 (as := []) rfl rfl (hR.clO ko_2 (by decide) (by decide)) (by decide) (Nat.le_of_ble_eq_true rfl) (Nat.le_of_ble_eq_true rfl) rfl (Nat.le_of_ble_eq_true rfl) rfl ?_
  refine zz_J.mono (k hR) ?_
  intro o h' hE
  cases o with
  | inl v => exact zz_J.weak hE rfl trivial
  | inr q => exact hE
theorem cb_177_210 {X : Nat → Option zz_C} {h : zz_H} {t : cS} {s : mS} {d : Nat} {Q : zz_O → zz_H → Prop}  (hR : kR h t s) (k : ∀ {h : zz_H}, kR h t s → Q (.inl none) h) : zz_J zp_P zt_tf zt_fd X d zm_177 210 [] [] h Q := by
  refine zz_J.ret rfl rfl rfl ?_
  exact k hR
def cf_177_210 (N : Nat) (X : Nat → Option zz_C) (rk : Nat → List Value → cS → kO)  (t : cS) : kO := some (t, .inl none)
theorem cr_177_210 {X : Nat → Option zz_C} {s : mS} {N : Nat} {rk : Nat → List Value → cS → kO} {D : Nat} (hrk : cK1 X s D rk) (hB : 162 ≤ D) {d : Nat} (hd : D + 1 ≤ d) {Q : zz_O → zz_H → Prop}  {h : zz_H} {t t' : cS} {o : kY} (hR : kR h t s) (hf : cf_177_210 N X rk  t = some (t', o)) (k : (∀ h', kR h' t' s → kE o Q h')) : zz_J zp_P zt_tf zt_fd X d zm_177 210 [] [] h Q := by
  unfold cf_177_210 at hf
  cases hf
  exact cb_177_210 hR  (fun {h} hR => k h hR)
def cf_177_145 (N : Nat) (X : Nat → Option zz_C) (rk : Nat → List Value → cS → kO)  (t : cS) : kO := cf_177_210 N X rk  t
theorem cr_177_145 {X : Nat → Option zz_C} {s : mS} {N : Nat} {rk : Nat → List Value → cS → kO} {D : Nat} (hrk : cK1 X s D rk) (hB : 162 ≤ D) {d : Nat} (hd : D + 1 ≤ d) {Q : zz_O → zz_H → Prop}  {h : zz_H} {t t' : cS} {o : kY} (hR : kR h t s) (hf : cf_177_145 N X rk  t = some (t', o)) (k : (∀ h', kR h' t' s → kE o Q h')) : zz_J zp_P zt_tf zt_fd X d zm_177 145 [] [] h Q := by
  unfold cf_177_145 at hf
  exact cb_177_145 hR  (fun hR => cr_177_210 hrk hB hd hR hf k)
def cf_177_140 (N : Nat) (X : Nat → Option zz_C) (rk : Nat → List Value → cS → kO) (x1 : Int32) (t : cS) : kO := ko_call 5 (rk 181 [.int x1] t) (fun g1 v1 => co_v v1 (cf_177_145 N X rk  g1))
theorem cr_177_140 {X : Nat → Option zz_C} {s : mS} {N : Nat} {rk : Nat → List Value → cS → kO} {D : Nat} (hrk : cK1 X s D rk) (hB : 162 ≤ D) {d : Nat} (hd : D + 1 ≤ d) {Q : zz_O → zz_H → Prop} {x1 : Int32} {h : zz_H} {t t' : cS} {o : kY} (hR : kR h t s) (hf : cf_177_140 N X rk x1 t = some (t', o)) (k : (∀ h', kR h' t' s → kE o Q h')) : zz_J zp_P zt_tf zt_fd X d zm_177 140 [(0, .ref 2), (1, .int x1)] [] h Q := by
  unfold cf_177_140 at hf
  obtain ⟨d', rfl⟩ : ∃ d', d = d' + 1 := ⟨d - 1, by omega⟩
  refine cb_177_140 hR  (fun {h} hR => ?_)
  rcases ko_call_ok hf with ⟨g1, v1, er, hf⟩ | ⟨g1, er, hq⟩
  · obtain ⟨hv, hf2⟩ := co_v_ok hf
    clear hf
    have hf := hf2
    clear hf2
    subst hv
    refine hrk.2.2.1 (by omega) hR er (fun h hR => ?_)
    exact cr_177_145 hrk hB hd hR hf k
  · refine hrk.2.2.1 (by omega) hR er (fun h hR => ?_)
    exact ko_thrown hq hR k
def cf_177_153 (N : Nat) (X : Nat → Option zz_C) (rk : Nat → List Value → cS → kO)  (t : cS) : kO := cf_177_210 N X rk  t
theorem cr_177_153 {X : Nat → Option zz_C} {s : mS} {N : Nat} {rk : Nat → List Value → cS → kO} {D : Nat} (hrk : cK1 X s D rk) (hB : 162 ≤ D) {d : Nat} (hd : D + 1 ≤ d) {Q : zz_O → zz_H → Prop}  {h : zz_H} {t t' : cS} {o : kY} (hR : kR h t s) (hf : cf_177_153 N X rk  t = some (t', o)) (k : (∀ h', kR h' t' s → kE o Q h')) : zz_J zp_P zt_tf zt_fd X d zm_177 153 [] [] h Q := by
  unfold cf_177_153 at hf
  exact cb_177_153 hR  (fun hR => cr_177_210 hrk hB hd hR hf k)
def cf_177_148 (N : Nat) (X : Nat → Option zz_C) (rk : Nat → List Value → cS → kO) (x1 : Int32) (t : cS) : kO := ko_call 5 (rk 182 [.int x1] t) (fun g1 v1 => co_v v1 (cf_177_153 N X rk  g1))
theorem cr_177_148 {X : Nat → Option zz_C} {s : mS} {N : Nat} {rk : Nat → List Value → cS → kO} {D : Nat} (hrk : cK1 X s D rk) (hB : 162 ≤ D) {d : Nat} (hd : D + 1 ≤ d) {Q : zz_O → zz_H → Prop} {x1 : Int32} {h : zz_H} {t t' : cS} {o : kY} (hR : kR h t s) (hf : cf_177_148 N X rk x1 t = some (t', o)) (k : (∀ h', kR h' t' s → kE o Q h')) : zz_J zp_P zt_tf zt_fd X d zm_177 148 [(0, .ref 2), (1, .int x1)] [] h Q := by
  unfold cf_177_148 at hf
  obtain ⟨d', rfl⟩ : ∃ d', d = d' + 1 := ⟨d - 1, by omega⟩
  refine cb_177_148 hR  (fun {h} hR => ?_)
  rcases ko_call_ok hf with ⟨g1, v1, er, hf⟩ | ⟨g1, er, hq⟩
  · obtain ⟨hv, hf2⟩ := co_v_ok hf
    clear hf
    have hf := hf2
    clear hf2
    subst hv
    refine hrk.2.2.2.1 (by omega) hR er (fun h hR => ?_)
    exact cr_177_153 hrk hB hd hR hf k
  · refine hrk.2.2.2.1 (by omega) hR er (fun h hR => ?_)
    exact ko_thrown hq hR k
def cf_177_161 (N : Nat) (X : Nat → Option zz_C) (rk : Nat → List Value → cS → kO)  (t : cS) : kO := cf_177_210 N X rk  t
theorem cr_177_161 {X : Nat → Option zz_C} {s : mS} {N : Nat} {rk : Nat → List Value → cS → kO} {D : Nat} (hrk : cK1 X s D rk) (hB : 162 ≤ D) {d : Nat} (hd : D + 1 ≤ d) {Q : zz_O → zz_H → Prop}  {h : zz_H} {t t' : cS} {o : kY} (hR : kR h t s) (hf : cf_177_161 N X rk  t = some (t', o)) (k : (∀ h', kR h' t' s → kE o Q h')) : zz_J zp_P zt_tf zt_fd X d zm_177 161 [] [] h Q := by
  unfold cf_177_161 at hf
  exact cb_177_161 hR  (fun hR => cr_177_210 hrk hB hd hR hf k)
def cf_177_156 (N : Nat) (X : Nat → Option zz_C) (rk : Nat → List Value → cS → kO) (x1 : Int32) (t : cS) : kO := ko_call 5 (rk 184 [.int x1] t) (fun g1 v1 => co_v v1 (cf_177_161 N X rk  g1))
theorem cr_177_156 {X : Nat → Option zz_C} {s : mS} {N : Nat} {rk : Nat → List Value → cS → kO} {D : Nat} (hrk : cK1 X s D rk) (hB : 162 ≤ D) {d : Nat} (hd : D + 1 ≤ d) {Q : zz_O → zz_H → Prop} {x1 : Int32} {h : zz_H} {t t' : cS} {o : kY} (hR : kR h t s) (hf : cf_177_156 N X rk x1 t = some (t', o)) (k : (∀ h', kR h' t' s → kE o Q h')) : zz_J zp_P zt_tf zt_fd X d zm_177 156 [(0, .ref 2), (1, .int x1)] [] h Q := by
  unfold cf_177_156 at hf
  obtain ⟨d', rfl⟩ : ∃ d', d = d' + 1 := ⟨d - 1, by omega⟩
  refine cb_177_156 hR  (fun {h} hR => ?_)
  rcases ko_call_ok hf with ⟨g1, v1, er, hf⟩ | ⟨g1, er, hq⟩
  · obtain ⟨hv, hf2⟩ := co_v_ok hf
    clear hf
    have hf := hf2
    clear hf2
    subst hv
    refine hrk.2.2.2.2.1 (by omega) hR er (fun h hR => ?_)
    exact cr_177_161 hrk hB hd hR hf k
  · refine hrk.2.2.2.2.1 (by omega) hR er (fun h hR => ?_)
    exact ko_thrown hq hR k
def cf_177_171 (N : Nat) (X : Nat → Option zz_C) (rk : Nat → List Value → cS → kO)  (t : cS) : kO := cf_177_210 N X rk  t
theorem cr_177_171 {X : Nat → Option zz_C} {s : mS} {N : Nat} {rk : Nat → List Value → cS → kO} {D : Nat} (hrk : cK1 X s D rk) (hB : 162 ≤ D) {d : Nat} (hd : D + 1 ≤ d) {Q : zz_O → zz_H → Prop}  {h : zz_H} {t t' : cS} {o : kY} (hR : kR h t s) (hf : cf_177_171 N X rk  t = some (t', o)) (k : (∀ h', kR h' t' s → kE o Q h')) : zz_J zp_P zt_tf zt_fd X d zm_177 171 [] [] h Q := by
  unfold cf_177_171 at hf
  exact cb_177_171 hR  (fun hR => cr_177_210 hrk hB hd hR hf k)
def cf_177_164 (N : Nat) (X : Nat → Option zz_C) (rk : Nat → List Value → cS → kO) (x1 : Int32) (t : cS) : kO := ko_call 5 (cf_179 N X 7 x1 t) (fun g1 v1 => co_v v1 (cf_177_171 N X rk  g1))
theorem cr_177_164 {X : Nat → Option zz_C} {s : mS} {N : Nat} {rk : Nat → List Value → cS → kO} {D : Nat} (hrk : cK1 X s D rk) (hB : 162 ≤ D) {d : Nat} (hd : D + 1 ≤ d) {Q : zz_O → zz_H → Prop} {x1 : Int32} {h : zz_H} {t t' : cS} {o : kY} (hR : kR h t s) (hf : cf_177_164 N X rk x1 t = some (t', o)) (k : (∀ h', kR h' t' s → kE o Q h')) : zz_J zp_P zt_tf zt_fd X d zm_177 164 [(0, .ref 2), (1, .int x1)] [] h Q := by
  unfold cf_177_164 at hf
  obtain ⟨d', rfl⟩ : ∃ d', d = d' + 1 := ⟨d - 1, by omega⟩
  refine cb_177_164 hR  (fun {h} hR => ?_)
  rcases ko_call_ok hf with ⟨g1, v1, er, hf⟩ | ⟨g1, er, hq⟩
  · obtain ⟨hv, hf2⟩ := co_v_ok hf
    clear hf
    have hf := hf2
    clear hf2
    subst hv
    refine cr_179 (by omega) hR er (fun h hR => ?_)
    exact cr_177_171 hrk hB hd hR hf k
  · refine cr_179 (by omega) hR er (fun h hR => ?_)
    exact ko_thrown hq hR k
def cf_177_181 (N : Nat) (X : Nat → Option zz_C) (rk : Nat → List Value → cS → kO)  (t : cS) : kO := cf_177_210 N X rk  t
theorem cr_177_181 {X : Nat → Option zz_C} {s : mS} {N : Nat} {rk : Nat → List Value → cS → kO} {D : Nat} (hrk : cK1 X s D rk) (hB : 162 ≤ D) {d : Nat} (hd : D + 1 ≤ d) {Q : zz_O → zz_H → Prop}  {h : zz_H} {t t' : cS} {o : kY} (hR : kR h t s) (hf : cf_177_181 N X rk  t = some (t', o)) (k : (∀ h', kR h' t' s → kE o Q h')) : zz_J zp_P zt_tf zt_fd X d zm_177 181 [] [] h Q := by
  unfold cf_177_181 at hf
  exact cb_177_181 hR  (fun hR => cr_177_210 hrk hB hd hR hf k)
def cf_177_174 (N : Nat) (X : Nat → Option zz_C) (rk : Nat → List Value → cS → kO) (x1 : Int32) (t : cS) : kO := ko_call 5 (cf_179 N X 8 x1 t) (fun g1 v1 => co_v v1 (cf_177_181 N X rk  g1))
theorem cr_177_174 {X : Nat → Option zz_C} {s : mS} {N : Nat} {rk : Nat → List Value → cS → kO} {D : Nat} (hrk : cK1 X s D rk) (hB : 162 ≤ D) {d : Nat} (hd : D + 1 ≤ d) {Q : zz_O → zz_H → Prop} {x1 : Int32} {h : zz_H} {t t' : cS} {o : kY} (hR : kR h t s) (hf : cf_177_174 N X rk x1 t = some (t', o)) (k : (∀ h', kR h' t' s → kE o Q h')) : zz_J zp_P zt_tf zt_fd X d zm_177 174 [(0, .ref 2), (1, .int x1)] [] h Q := by
  unfold cf_177_174 at hf
  obtain ⟨d', rfl⟩ : ∃ d', d = d' + 1 := ⟨d - 1, by omega⟩
  refine cb_177_174 hR  (fun {h} hR => ?_)
  rcases ko_call_ok hf with ⟨g1, v1, er, hf⟩ | ⟨g1, er, hq⟩
  · obtain ⟨hv, hf2⟩ := co_v_ok hf
    clear hf
    have hf := hf2
    clear hf2
    subst hv
    refine cr_179 (by omega) hR er (fun h hR => ?_)
    exact cr_177_181 hrk hB hd hR hf k
  · refine cr_179 (by omega) hR er (fun h hR => ?_)
    exact ko_thrown hq hR k
def cf_177_191 (N : Nat) (X : Nat → Option zz_C) (rk : Nat → List Value → cS → kO)  (t : cS) : kO := cf_177_210 N X rk  t
theorem cr_177_191 {X : Nat → Option zz_C} {s : mS} {N : Nat} {rk : Nat → List Value → cS → kO} {D : Nat} (hrk : cK1 X s D rk) (hB : 162 ≤ D) {d : Nat} (hd : D + 1 ≤ d) {Q : zz_O → zz_H → Prop}  {h : zz_H} {t t' : cS} {o : kY} (hR : kR h t s) (hf : cf_177_191 N X rk  t = some (t', o)) (k : (∀ h', kR h' t' s → kE o Q h')) : zz_J zp_P zt_tf zt_fd X d zm_177 191 [] [] h Q := by
  unfold cf_177_191 at hf
  exact cb_177_191 hR  (fun hR => cr_177_210 hrk hB hd hR hf k)
def cf_177_184 (N : Nat) (X : Nat → Option zz_C) (rk : Nat → List Value → cS → kO) (x1 : Int32) (t : cS) : kO := ko_call 5 (cf_179 N X 9 x1 t) (fun g1 v1 => co_v v1 (cf_177_191 N X rk  g1))
theorem cr_177_184 {X : Nat → Option zz_C} {s : mS} {N : Nat} {rk : Nat → List Value → cS → kO} {D : Nat} (hrk : cK1 X s D rk) (hB : 162 ≤ D) {d : Nat} (hd : D + 1 ≤ d) {Q : zz_O → zz_H → Prop} {x1 : Int32} {h : zz_H} {t t' : cS} {o : kY} (hR : kR h t s) (hf : cf_177_184 N X rk x1 t = some (t', o)) (k : (∀ h', kR h' t' s → kE o Q h')) : zz_J zp_P zt_tf zt_fd X d zm_177 184 [(0, .ref 2), (1, .int x1)] [] h Q := by
  unfold cf_177_184 at hf
  obtain ⟨d', rfl⟩ : ∃ d', d = d' + 1 := ⟨d - 1, by omega⟩
  refine cb_177_184 hR  (fun {h} hR => ?_)
  rcases ko_call_ok hf with ⟨g1, v1, er, hf⟩ | ⟨g1, er, hq⟩
  · obtain ⟨hv, hf2⟩ := co_v_ok hf
    clear hf
    have hf := hf2
    clear hf2
    subst hv
    refine cr_179 (by omega) hR er (fun h hR => ?_)
    exact cr_177_191 hrk hB hd hR hf k
  · refine cr_179 (by omega) hR er (fun h hR => ?_)
    exact ko_thrown hq hR k
def cf_177_198 (N : Nat) (X : Nat → Option zz_C) (rk : Nat → List Value → cS → kO)  (t : cS) : kO := cf_177_210 N X rk  t
theorem cr_177_198 {X : Nat → Option zz_C} {s : mS} {N : Nat} {rk : Nat → List Value → cS → kO} {D : Nat} (hrk : cK1 X s D rk) (hB : 162 ≤ D) {d : Nat} (hd : D + 1 ≤ d) {Q : zz_O → zz_H → Prop}  {h : zz_H} {t t' : cS} {o : kY} (hR : kR h t s) (hf : cf_177_198 N X rk  t = some (t', o)) (k : (∀ h', kR h' t' s → kE o Q h')) : zz_J zp_P zt_tf zt_fd X d zm_177 198 [] [] h Q := by
  unfold cf_177_198 at hf
  exact cb_177_198 hR  (fun hR => cr_177_210 hrk hB hd hR hf k)
def cf_177_194 (N : Nat) (X : Nat → Option zz_C) (rk : Nat → List Value → cS → kO)  (t : cS) : kO := ko_call 5 (rk 185 [] t) (fun g1 v1 => co_v v1 (cf_177_198 N X rk  g1))
theorem cr_177_194 {X : Nat → Option zz_C} {s : mS} {N : Nat} {rk : Nat → List Value → cS → kO} {D : Nat} (hrk : cK1 X s D rk) (hB : 162 ≤ D) {d : Nat} (hd : D + 1 ≤ d) {Q : zz_O → zz_H → Prop}  {h : zz_H} {t t' : cS} {o : kY} (hR : kR h t s) (hf : cf_177_194 N X rk  t = some (t', o)) (k : (∀ h', kR h' t' s → kE o Q h')) : zz_J zp_P zt_tf zt_fd X d zm_177 194 [(0, .ref 2)] [] h Q := by
  unfold cf_177_194 at hf
  obtain ⟨d', rfl⟩ : ∃ d', d = d' + 1 := ⟨d - 1, by omega⟩
  refine cb_177_194 hR  (fun {h} hR => ?_)
  rcases ko_call_ok hf with ⟨g1, v1, er, hf⟩ | ⟨g1, er, hq⟩
  · obtain ⟨hv, hf2⟩ := co_v_ok hf
    clear hf
    have hf := hf2
    clear hf2
    subst hv
    refine hrk.2.2.2.2.2 (by omega) hR er (fun h hR => ?_)
    exact cr_177_198 hrk hB hd hR hf k
  · refine hrk.2.2.2.2.2 (by omega) hR er (fun h hR => ?_)
    exact ko_thrown hq hR k
def cf_177_206 (N : Nat) (X : Nat → Option zz_C) (rk : Nat → List Value → cS → kO)  (t : cS) : kO := ko_call 5 (cf_178 N X  t) (fun g1 v1 => co_v v1 (cf_177_210 N X rk  g1))
theorem cr_177_206 {X : Nat → Option zz_C} {s : mS} {N : Nat} {rk : Nat → List Value → cS → kO} {D : Nat} (hrk : cK1 X s D rk) (hB : 162 ≤ D) {d : Nat} (hd : D + 1 ≤ d) {Q : zz_O → zz_H → Prop}  {h : zz_H} {t t' : cS} {o : kY} (hR : kR h t s) (hf : cf_177_206 N X rk  t = some (t', o)) (k : (∀ h', kR h' t' s → kE o Q h')) : zz_J zp_P zt_tf zt_fd X d zm_177 206 [(0, .ref 2)] [] h Q := by
  unfold cf_177_206 at hf
  obtain ⟨d', rfl⟩ : ∃ d', d = d' + 1 := ⟨d - 1, by omega⟩
  refine cb_177_206 hR  (fun {h} hR => ?_)
  rcases ko_call_ok hf with ⟨g1, v1, er, hf⟩ | ⟨g1, er, hq⟩
  · obtain ⟨hv, hf2⟩ := co_v_ok hf
    clear hf
    have hf := hf2
    clear hf2
    subst hv
    refine cr_178 (by omega) hR er (fun h hR => ?_)
    exact cr_177_210 hrk hB hd hR hf k
  · refine cr_178 (by omega) hR er (fun h hR => ?_)
    exact ko_thrown hq hR k
def cf_177_201 (N : Nat) (X : Nat → Option zz_C) (rk : Nat → List Value → cS → kO) (x3 : Nat) (t : cS) : kO := ko_call 5 (cf_S0 N X 150 192 [.ref x3] t) (fun g1 v1 => co_v v1 (cf_177_206 N X rk  g1))
theorem cr_177_201 {X : Nat → Option zz_C} {s : mS} {N : Nat} {rk : Nat → List Value → cS → kO} {D : Nat} (hrk : cK1 X s D rk) (hB : 162 ≤ D) {d : Nat} (hd : D + 1 ≤ d) {Q : zz_O → zz_H → Prop} {x3 : Nat} {h : zz_H} {t t' : cS} {o : kY} (hR : kR h t s) (hf : cf_177_201 N X rk x3 t = some (t', o)) (k : (∀ h', kR h' t' s → kE o Q h')) : zz_J zp_P zt_tf zt_fd X d zm_177 201 [(0, .ref 2), (3, .ref x3)] [] h Q := by
  unfold cf_177_201 at hf
  obtain ⟨d', rfl⟩ : ∃ d', d = d' + 1 := ⟨d - 1, by omega⟩
  refine cb_177_201 hR  (fun {h} hR => ?_)
  rcases ko_call_ok hf with ⟨g1, v1, er, hf⟩ | ⟨g1, er, hq⟩
  · obtain ⟨hv, hf2⟩ := co_v_ok hf
    clear hf
    have hf := hf2
    clear hf2
    subst hv
    refine (cr_S0 150).2.2.2.2.2.1 (by omega) hR er (fun h hR => ?_)
    exact cr_177_206 hrk hB hd hR hf k
  · refine (cr_S0 150).2.2.2.2.2.1 (by omega) hR er (fun h hR => ?_)
    exact ko_thrown hq hR k
def cf_177_96 (N : Nat) (X : Nat → Option zz_C) (rk : Nat → List Value → cS → kO) (x1 : Int32) (x3 : Nat) (y1 : Int32) (t : cS) : kO := co_b (hai X [] (zz_out + 43) y1) (fun w0 => if (Int32.toInt w0 < 1 ∨ 7 < Int32.toInt w0) then cf_177_201 N X rk x3 t else if w0 = 1 then cf_177_140 N X rk x1 t else if w0 = 2 then cf_177_148 N X rk x1 t else if w0 = 3 then cf_177_156 N X rk x1 t else if w0 = 4 then cf_177_164 N X rk x1 t else if w0 = 5 then cf_177_174 N X rk x1 t else if w0 = 6 then cf_177_184 N X rk x1 t else if w0 = 7 then cf_177_194 N X rk  t else none)
theorem cr_177_96 {X : Nat → Option zz_C} {s : mS} {N : Nat} {rk : Nat → List Value → cS → kO} {D : Nat} (hrk : cK1 X s D rk) (hB : 162 ≤ D) {d : Nat} (hd : D + 1 ≤ d) {Q : zz_O → zz_H → Prop} {x1 : Int32} {x3 : Nat} {y1 : Int32} {h : zz_H} {t t' : cS} {o : kY} (hR : kR h t s) (hf : cf_177_96 N X rk x1 x3 y1 t = some (t', o)) (k : (∀ h', kR h' t' s → kE o Q h')) : zz_J zp_P zt_tf zt_fd X d zm_177 96 [(0, .ref 2), (1, .int x1), (3, .ref x3)] [.int y1, .ref (zz_out + 43)] h Q := by
  unfold cf_177_96 at hf
  obtain ⟨w0, e0, hf⟩ := co_b_ok hf
  refine cb_177_96 hR e0 (fun c {h} hR => ?_) (fun c {h} hR => ?_) (fun c {h} hR => ?_) (fun c {h} hR => ?_) (fun c {h} hR => ?_) (fun c {h} hR => ?_) (fun c {h} hR => ?_) (fun c {h} hR => ?_)
  · rw [if_neg (by rw [c]; decide)] at hf
    rw [if_pos c] at hf
    exact cr_177_140 hrk hB hd hR hf k
  · rw [if_neg (by rw [c]; decide)] at hf
    rw [if_neg (by rw [c]; decide)] at hf
    rw [if_pos c] at hf
    exact cr_177_148 hrk hB hd hR hf k
  · rw [if_neg (by rw [c]; decide)] at hf
    rw [if_neg (by rw [c]; decide)] at hf
    rw [if_neg (by rw [c]; decide)] at hf
    rw [if_pos c] at hf
    exact cr_177_156 hrk hB hd hR hf k
  · rw [if_neg (by rw [c]; decide)] at hf
    rw [if_neg (by rw [c]; decide)] at hf
    rw [if_neg (by rw [c]; decide)] at hf
    rw [if_neg (by rw [c]; decide)] at hf
    rw [if_pos c] at hf
    exact cr_177_164 hrk hB hd hR hf k
  · rw [if_neg (by rw [c]; decide)] at hf
    rw [if_neg (by rw [c]; decide)] at hf
    rw [if_neg (by rw [c]; decide)] at hf
    rw [if_neg (by rw [c]; decide)] at hf
    rw [if_neg (by rw [c]; decide)] at hf
    rw [if_pos c] at hf
    exact cr_177_174 hrk hB hd hR hf k
  · rw [if_neg (by rw [c]; decide)] at hf
    rw [if_neg (by rw [c]; decide)] at hf
    rw [if_neg (by rw [c]; decide)] at hf
    rw [if_neg (by rw [c]; decide)] at hf
    rw [if_neg (by rw [c]; decide)] at hf
    rw [if_neg (by rw [c]; decide)] at hf
    rw [if_pos c] at hf
    exact cr_177_184 hrk hB hd hR hf k
  · rw [if_neg (by rw [c]; decide)] at hf
    rw [if_neg (by rw [c]; decide)] at hf
    rw [if_neg (by rw [c]; decide)] at hf
    rw [if_neg (by rw [c]; decide)] at hf
    rw [if_neg (by rw [c]; decide)] at hf
    rw [if_neg (by rw [c]; decide)] at hf
    rw [if_neg (by rw [c]; decide)] at hf
    rw [if_pos c] at hf
    exact cr_177_194 hrk hB hd hR hf k
  · rw [if_pos c] at hf
    exact cr_177_201 hrk hB hd hR hf k
def cf_177_88 (N : Nat) (X : Nat → Option zz_C) (rk : Nat → List Value → cS → kO) (x1 : Int32) (y0 : Nat) (t : cS) : kO := if ¬ y0 < zz_out then (if hcl X [] y0 20 = true then (ko_call 20 (cf_356 N X y0 t) (fun g1 v1 => co_i v1 (fun y => cf_177_96 N X rk x1 y0 y g1))) else none) else none
theorem cr_177_88 {X : Nat → Option zz_C} {s : mS} {N : Nat} {rk : Nat → List Value → cS → kO} {D : Nat} (hrk : cK1 X s D rk) (hB : 162 ≤ D) {d : Nat} (hd : D + 1 ≤ d) {Q : zz_O → zz_H → Prop} {x1 : Int32} {y0 : Nat} {h : zz_H} {t t' : cS} {o : kY} (hR : kR h t s) (hf : cf_177_88 N X rk x1 y0 t = some (t', o)) (k : (∀ h', kR h' t' s → kE o Q h')) : zz_J zp_P zt_tf zt_fd X d zm_177 88 [(0, .ref 2), (1, .int x1)] [.ref y0] h Q := by
  unfold cf_177_88 at hf
  obtain ⟨e0, hf⟩ := ko_if hf
  obtain ⟨e1, hf⟩ := ko_if hf
  obtain ⟨d', rfl⟩ : ∃ d', d = d' + 1 := ⟨d - 1, by omega⟩
  refine cb_177_88 hR e0 e1 (fun {h} hR => ?_)
  rcases ko_call_ok hf with ⟨g1, v1, er, hf⟩ | ⟨g1, er, hq⟩
  · obtain ⟨y, hv, hf2⟩ := co_i_ok hf
    clear hf
    have hf := hf2
    clear hf2
    subst hv
    refine cr_356 (by omega) hR er (fun h hR => ?_)
    exact cr_177_96 hrk hB hd hR hf k
  · refine cr_356 (by omega) hR er (fun h hR => ?_)
    exact ko_thrown hq hR k
def cf_177_84 (N : Nat) (X : Nat → Option zz_C) (rk : Nat → List Value → cS → kO) (x1 : Int32) (t : cS) : kO := ko_call 5 (cf_199 N X  t) (fun g1 v1 => co_r v1 (fun y => cf_177_88 N X rk x1 y g1))
theorem cr_177_84 {X : Nat → Option zz_C} {s : mS} {N : Nat} {rk : Nat → List Value → cS → kO} {D : Nat} (hrk : cK1 X s D rk) (hB : 162 ≤ D) {d : Nat} (hd : D + 1 ≤ d) {Q : zz_O → zz_H → Prop} {x1 : Int32} {h : zz_H} {t t' : cS} {o : kY} (hR : kR h t s) (hf : cf_177_84 N X rk x1 t = some (t', o)) (k : (∀ h', kR h' t' s → kE o Q h')) : zz_J zp_P zt_tf zt_fd X d zm_177 84 [(0, .ref 2), (1, .int x1)] [] h Q := by
  unfold cf_177_84 at hf
  obtain ⟨d', rfl⟩ : ∃ d', d = d' + 1 := ⟨d - 1, by omega⟩
  refine cb_177_84 hR  (fun {h} hR => ?_)
  rcases ko_call_ok hf with ⟨g1, v1, er, hf⟩ | ⟨g1, er, hq⟩
  · obtain ⟨y, hv, hf2⟩ := co_r_ok hf
    clear hf
    have hf := hf2
    clear hf2
    subst hv
    refine cr_199 (by omega) hR er (fun h hR => ?_)
    exact cr_177_88 hrk hB hd hR hf k
  · refine cr_199 (by omega) hR er (fun h hR => ?_)
    exact ko_thrown hq hR k
def cf_177_83 (N : Nat) (X : Nat → Option zz_C) (rk : Nat → List Value → cS → kO)  (t : cS) : kO := some (t, .inl none)
theorem cr_177_83 {X : Nat → Option zz_C} {s : mS} {N : Nat} {rk : Nat → List Value → cS → kO} {D : Nat} (hrk : cK1 X s D rk) (hB : 162 ≤ D) {d : Nat} (hd : D + 1 ≤ d) {Q : zz_O → zz_H → Prop}  {h : zz_H} {t t' : cS} {o : kY} (hR : kR h t s) (hf : cf_177_83 N X rk  t = some (t', o)) (k : (∀ h', kR h' t' s → kE o Q h')) : zz_J zp_P zt_tf zt_fd X d zm_177 83 [] [] h Q := by
  unfold cf_177_83 at hf
  cases hf
  exact cb_177_83 hR  (fun {h} hR => k h hR)
def cf_177_79 (N : Nat) (X : Nat → Option zz_C) (rk : Nat → List Value → cS → kO)  (t : cS) : kO := ko_call 5 (cf_180 N X  t) (fun g1 v1 => co_v v1 (cf_177_83 N X rk  g1))
theorem cr_177_79 {X : Nat → Option zz_C} {s : mS} {N : Nat} {rk : Nat → List Value → cS → kO} {D : Nat} (hrk : cK1 X s D rk) (hB : 162 ≤ D) {d : Nat} (hd : D + 1 ≤ d) {Q : zz_O → zz_H → Prop}  {h : zz_H} {t t' : cS} {o : kY} (hR : kR h t s) (hf : cf_177_79 N X rk  t = some (t', o)) (k : (∀ h', kR h' t' s → kE o Q h')) : zz_J zp_P zt_tf zt_fd X d zm_177 79 [(0, .ref 2)] [] h Q := by
  unfold cf_177_79 at hf
  obtain ⟨d', rfl⟩ : ∃ d', d = d' + 1 := ⟨d - 1, by omega⟩
  refine cb_177_79 hR  (fun {h} hR => ?_)
  rcases ko_call_ok hf with ⟨g1, v1, er, hf⟩ | ⟨g1, er, hq⟩
  · obtain ⟨hv, hf2⟩ := co_v_ok hf
    clear hf
    have hf := hf2
    clear hf2
    subst hv
    refine cr_180 (by omega) hR er (fun h hR => ?_)
    exact cr_177_83 hrk hB hd hR hf k
  · refine cr_180 (by omega) hR er (fun h hR => ?_)
    exact ko_thrown hq hR k
def cf_177_74 (N : Nat) (X : Nat → Option zz_C) (rk : Nat → List Value → cS → kO) (x1 : Int32) (x2 : Int32) (t : cS) : kO := if ¬ x2 = 3 then cf_177_84 N X rk x1 t else cf_177_79 N X rk  t
theorem cr_177_74 {X : Nat → Option zz_C} {s : mS} {N : Nat} {rk : Nat → List Value → cS → kO} {D : Nat} (hrk : cK1 X s D rk) (hB : 162 ≤ D) {d : Nat} (hd : D + 1 ≤ d) {Q : zz_O → zz_H → Prop} {x1 : Int32} {x2 : Int32} {h : zz_H} {t t' : cS} {o : kY} (hR : kR h t s) (hf : cf_177_74 N X rk x1 x2 t = some (t', o)) (k : (∀ h', kR h' t' s → kE o Q h')) : zz_J zp_P zt_tf zt_fd X d zm_177 74 [(0, .ref 2), (1, .int x1), (2, .int x2)] [] h Q := by
  unfold cf_177_74 at hf
  refine cb_177_74 hR  (fun c {h} hR => ?_) (fun c {h} hR => ?_)
  · rw [if_pos c] at hf
    exact cr_177_84 hrk hB hd hR hf k
  · rw [if_neg c] at hf
    exact cr_177_79 hrk hB hd hR hf k
def cf_177_73 (N : Nat) (X : Nat → Option zz_C) (rk : Nat → List Value → cS → kO)  (t : cS) : kO := some (t, .inl none)
theorem cr_177_73 {X : Nat → Option zz_C} {s : mS} {N : Nat} {rk : Nat → List Value → cS → kO} {D : Nat} (hrk : cK1 X s D rk) (hB : 162 ≤ D) {d : Nat} (hd : D + 1 ≤ d) {Q : zz_O → zz_H → Prop}  {h : zz_H} {t t' : cS} {o : kY} (hR : kR h t s) (hf : cf_177_73 N X rk  t = some (t', o)) (k : (∀ h', kR h' t' s → kE o Q h')) : zz_J zp_P zt_tf zt_fd X d zm_177 73 [] [] h Q := by
  unfold cf_177_73 at hf
  cases hf
  exact cb_177_73 hR  (fun {h} hR => k h hR)
def cf_177_69 (N : Nat) (X : Nat → Option zz_C) (rk : Nat → List Value → cS → kO)  (t : cS) : kO := ko_call 5 (cf_178 N X  t) (fun g1 v1 => co_v v1 (cf_177_73 N X rk  g1))
theorem cr_177_69 {X : Nat → Option zz_C} {s : mS} {N : Nat} {rk : Nat → List Value → cS → kO} {D : Nat} (hrk : cK1 X s D rk) (hB : 162 ≤ D) {d : Nat} (hd : D + 1 ≤ d) {Q : zz_O → zz_H → Prop}  {h : zz_H} {t t' : cS} {o : kY} (hR : kR h t s) (hf : cf_177_69 N X rk  t = some (t', o)) (k : (∀ h', kR h' t' s → kE o Q h')) : zz_J zp_P zt_tf zt_fd X d zm_177 69 [(0, .ref 2)] [] h Q := by
  unfold cf_177_69 at hf
  obtain ⟨d', rfl⟩ : ∃ d', d = d' + 1 := ⟨d - 1, by omega⟩
  refine cb_177_69 hR  (fun {h} hR => ?_)
  rcases ko_call_ok hf with ⟨g1, v1, er, hf⟩ | ⟨g1, er, hq⟩
  · obtain ⟨hv, hf2⟩ := co_v_ok hf
    clear hf
    have hf := hf2
    clear hf2
    subst hv
    refine cr_178 (by omega) hR er (fun h hR => ?_)
    exact cr_177_73 hrk hB hd hR hf k
  · refine cr_178 (by omega) hR er (fun h hR => ?_)
    exact ko_thrown hq hR k
def cf_177_65 (N : Nat) (X : Nat → Option zz_C) (rk : Nat → List Value → cS → kO)  (t : cS) : kO := ko_call 5 (cf_S0 N X 150 191 [] t) (fun g1 v1 => co_v v1 (cf_177_69 N X rk  g1))
theorem cr_177_65 {X : Nat → Option zz_C} {s : mS} {N : Nat} {rk : Nat → List Value → cS → kO} {D : Nat} (hrk : cK1 X s D rk) (hB : 162 ≤ D) {d : Nat} (hd : D + 1 ≤ d) {Q : zz_O → zz_H → Prop}  {h : zz_H} {t t' : cS} {o : kY} (hR : kR h t s) (hf : cf_177_65 N X rk  t = some (t', o)) (k : (∀ h', kR h' t' s → kE o Q h')) : zz_J zp_P zt_tf zt_fd X d zm_177 65 [(0, .ref 2)] [] h Q := by
  unfold cf_177_65 at hf
  obtain ⟨d', rfl⟩ : ∃ d', d = d' + 1 := ⟨d - 1, by omega⟩
  refine cb_177_65 hR  (fun {h} hR => ?_)
  rcases ko_call_ok hf with ⟨g1, v1, er, hf⟩ | ⟨g1, er, hq⟩
  · obtain ⟨hv, hf2⟩ := co_v_ok hf
    clear hf
    have hf := hf2
    clear hf2
    subst hv
    refine (cr_S0 150).2.2.2.2.1 (by omega) hR er (fun h hR => ?_)
    exact cr_177_69 hrk hB hd hR hf k
  · refine (cr_S0 150).2.2.2.2.1 (by omega) hR er (fun h hR => ?_)
    exact ko_thrown hq hR k
def cf_177_60 (N : Nat) (X : Nat → Option zz_C) (rk : Nat → List Value → cS → kO) (x1 : Int32) (x2 : Int32) (y0 : Int32) (t : cS) : kO := if ¬ y0 = 40 then cf_177_74 N X rk x1 x2 t else cf_177_65 N X rk  t
theorem cr_177_60 {X : Nat → Option zz_C} {s : mS} {N : Nat} {rk : Nat → List Value → cS → kO} {D : Nat} (hrk : cK1 X s D rk) (hB : 162 ≤ D) {d : Nat} (hd : D + 1 ≤ d) {Q : zz_O → zz_H → Prop} {x1 : Int32} {x2 : Int32} {y0 : Int32} {h : zz_H} {t t' : cS} {o : kY} (hR : kR h t s) (hf : cf_177_60 N X rk x1 x2 y0 t = some (t', o)) (k : (∀ h', kR h' t' s → kE o Q h')) : zz_J zp_P zt_tf zt_fd X d zm_177 60 [(0, .ref 2), (1, .int x1), (2, .int x2)] [.int y0] h Q := by
  unfold cf_177_60 at hf
  refine cb_177_60 hR  (fun c {h} hR => ?_) (fun c {h} hR => ?_)
  · rw [if_pos c] at hf
    exact cr_177_74 hrk hB hd hR hf k
  · rw [if_neg c] at hf
    exact cr_177_65 hrk hB hd hR hf k
def cf_177_53 (N : Nat) (X : Nat → Option zz_C) (rk : Nat → List Value → cS → kO) (x1 : Int32) (x2 : Int32) (t : cS) : kO := ko_call 10 (cf_242 N X  t) (fun g1 v1 => co_i v1 (fun y => cf_177_60 N X rk x1 x2 y g1))
theorem cr_177_53 {X : Nat → Option zz_C} {s : mS} {N : Nat} {rk : Nat → List Value → cS → kO} {D : Nat} (hrk : cK1 X s D rk) (hB : 162 ≤ D) {d : Nat} (hd : D + 1 ≤ d) {Q : zz_O → zz_H → Prop} {x1 : Int32} {x2 : Int32} {h : zz_H} {t t' : cS} {o : kY} (hR : kR h t s) (hf : cf_177_53 N X rk x1 x2 t = some (t', o)) (k : (∀ h', kR h' t' s → kE o Q h')) : zz_J zp_P zt_tf zt_fd X d zm_177 53 [(0, .ref 2), (1, .int x1), (2, .int x2)] [] h Q := by
  unfold cf_177_53 at hf
  obtain ⟨d', rfl⟩ : ∃ d', d = d' + 1 := ⟨d - 1, by omega⟩
  refine cb_177_53 hR  (fun {h} hR => ?_)
  rcases ko_call_ok hf with ⟨g1, v1, er, hf⟩ | ⟨g1, er, hq⟩
  · obtain ⟨y, hv, hf2⟩ := co_i_ok hf
    clear hf
    have hf := hf2
    clear hf2
    subst hv
    refine cr_242 (by omega) hR er (fun h hR => ?_)
    exact cr_177_60 hrk hB hd hR hf k
  · refine cr_242 (by omega) hR er (fun h hR => ?_)
    exact ko_thrown hq hR k
def cf_177_47 (N : Nat) (X : Nat → Option zz_C) (rk : Nat → List Value → cS → kO) (x1 : Int32) (x2 : Int32) (y0 : Int32) (t : cS) : kO := if ¬ x2 = 3 then cf_177_74 N X rk x1 x2 t else cf_177_53 N X rk x1 x2 t
theorem cr_177_47 {X : Nat → Option zz_C} {s : mS} {N : Nat} {rk : Nat → List Value → cS → kO} {D : Nat} (hrk : cK1 X s D rk) (hB : 162 ≤ D) {d : Nat} (hd : D + 1 ≤ d) {Q : zz_O → zz_H → Prop} {x1 : Int32} {x2 : Int32} {y0 : Int32} {h : zz_H} {t t' : cS} {o : kY} (hR : kR h t s) (hf : cf_177_47 N X rk x1 x2 y0 t = some (t', o)) (k : (∀ h', kR h' t' s → kE o Q h')) : zz_J zp_P zt_tf zt_fd X d zm_177 47 [(0, .ref 2), (1, .int x1), (2, .int x2)] [.int y0] h Q := by
  unfold cf_177_47 at hf
  refine cb_177_47 hR  (fun c {h} hR => ?_) (fun c {h} hR => ?_)
  · rw [if_pos c] at hf
    exact cr_177_74 hrk hB hd hR hf k
  · rw [if_neg c] at hf
    exact cr_177_53 hrk hB hd hR hf k
def cf_177_36 (N : Nat) (X : Nat → Option zz_C) (rk : Nat → List Value → cS → kO) (x1 : Int32) (x2 : Int32) (t : cS) : kO := co_b ((kP t 2 1)) (fun w0 => if w0 = 12 ∨ w0 = 21 then (ko_call 6 (cf_209 N X w0 26 0 x1 t) (fun g1 v1 => co_i v1 (fun y => cf_177_47 N X rk x1 x2 y g1))) else none)
theorem cr_177_36 {X : Nat → Option zz_C} {s : mS} {N : Nat} {rk : Nat → List Value → cS → kO} {D : Nat} (hrk : cK1 X s D rk) (hB : 162 ≤ D) {d : Nat} (hd : D + 1 ≤ d) {Q : zz_O → zz_H → Prop} {x1 : Int32} {x2 : Int32} {h : zz_H} {t t' : cS} {o : kY} (hR : kR h t s) (hf : cf_177_36 N X rk x1 x2 t = some (t', o)) (k : (∀ h', kR h' t' s → kE o Q h')) : zz_J zp_P zt_tf zt_fd X d zm_177 36 [(0, .ref 2), (1, .int x1), (2, .int x2)] [] h Q := by
  unfold cf_177_36 at hf
  obtain ⟨w0, e0, hf⟩ := co_b_ok hf
  obtain ⟨e1, hf⟩ := ko_if hf
  obtain ⟨d', rfl⟩ : ∃ d', d = d' + 1 := ⟨d - 1, by omega⟩
  refine cb_177_36 hR e0 e1 (fun {h} hR => ?_)
  rcases ko_call_ok hf with ⟨g1, v1, er, hf⟩ | ⟨g1, er, hq⟩
  · obtain ⟨y, hv, hf2⟩ := co_i_ok hf
    clear hf
    have hf := hf2
    clear hf2
    subst hv
    refine cr_209 (by omega) hR er (fun h hR => ?_)
    exact cr_177_47 hrk hB hd hR hf k
  · refine cr_209 (by omega) hR er (fun h hR => ?_)
    exact ko_thrown hq hR k
def cf_177_32 (N : Nat) (X : Nat → Option zz_C) (rk : Nat → List Value → cS → kO) (x1 : Int32) (x2 : Int32) (y1 : Int32) (t : cS) : kO := ko_call 5 (cf_202 N X y1 2 t) (fun g1 v1 => co_v v1 (cf_177_36 N X rk x1 x2 g1))
theorem cr_177_32 {X : Nat → Option zz_C} {s : mS} {N : Nat} {rk : Nat → List Value → cS → kO} {D : Nat} (hrk : cK1 X s D rk) (hB : 162 ≤ D) {d : Nat} (hd : D + 1 ≤ d) {Q : zz_O → zz_H → Prop} {x1 : Int32} {x2 : Int32} {y1 : Int32} {h : zz_H} {t t' : cS} {o : kY} (hR : kR h t s) (hf : cf_177_32 N X rk x1 x2 y1 t = some (t', o)) (k : (∀ h', kR h' t' s → kE o Q h')) : zz_J zp_P zt_tf zt_fd X d zm_177 32 [(0, .ref 2), (1, .int x1), (2, .int x2)] [.int y1, .ref 2] h Q := by
  unfold cf_177_32 at hf
  obtain ⟨d', rfl⟩ : ∃ d', d = d' + 1 := ⟨d - 1, by omega⟩
  refine cb_177_32 hR  (fun {h} hR => ?_)
  rcases ko_call_ok hf with ⟨g1, v1, er, hf⟩ | ⟨g1, er, hq⟩
  · obtain ⟨hv, hf2⟩ := co_v_ok hf
    clear hf
    have hf := hf2
    clear hf2
    subst hv
    refine cr_202 (by omega) hR er (fun h hR => ?_)
    exact cr_177_36 hrk hB hd hR hf k
  · refine cr_202 (by omega) hR er (fun h hR => ?_)
    exact ko_thrown hq hR k
def cf_177_27 (N : Nat) (X : Nat → Option zz_C) (rk : Nat → List Value → cS → kO) (x1 : Int32) (x2 : Int32) (t : cS) : kO := cf_177_32 N X rk x1 x2 1 t
theorem cr_177_27 {X : Nat → Option zz_C} {s : mS} {N : Nat} {rk : Nat → List Value → cS → kO} {D : Nat} (hrk : cK1 X s D rk) (hB : 162 ≤ D) {d : Nat} (hd : D + 1 ≤ d) {Q : zz_O → zz_H → Prop} {x1 : Int32} {x2 : Int32} {h : zz_H} {t t' : cS} {o : kY} (hR : kR h t s) (hf : cf_177_27 N X rk x1 x2 t = some (t', o)) (k : (∀ h', kR h' t' s → kE o Q h')) : zz_J zp_P zt_tf zt_fd X d zm_177 27 [(0, .ref 2), (1, .int x1), (2, .int x2)] [.ref 2] h Q := by
  unfold cf_177_27 at hf
  exact cb_177_27 hR  (fun hR => cr_177_32 hrk hB hd hR hf k)
def cf_177_31 (N : Nat) (X : Nat → Option zz_C) (rk : Nat → List Value → cS → kO) (x1 : Int32) (x2 : Int32) (t : cS) : kO := cf_177_32 N X rk x1 x2 0 t
theorem cr_177_31 {X : Nat → Option zz_C} {s : mS} {N : Nat} {rk : Nat → List Value → cS → kO} {D : Nat} (hrk : cK1 X s D rk) (hB : 162 ≤ D) {d : Nat} (hd : D + 1 ≤ d) {Q : zz_O → zz_H → Prop} {x1 : Int32} {x2 : Int32} {h : zz_H} {t t' : cS} {o : kY} (hR : kR h t s) (hf : cf_177_31 N X rk x1 x2 t = some (t', o)) (k : (∀ h', kR h' t' s → kE o Q h')) : zz_J zp_P zt_tf zt_fd X d zm_177 31 [(0, .ref 2), (1, .int x1), (2, .int x2)] [.ref 2] h Q := by
  unfold cf_177_31 at hf
  exact cb_177_31 hR  (fun hR => cr_177_32 hrk hB hd hR hf k)
def cf_177_22 (N : Nat) (X : Nat → Option zz_C) (rk : Nat → List Value → cS → kO) (x1 : Int32) (x2 : Int32) (t : cS) : kO := if ¬ x2 = 4 then cf_177_31 N X rk x1 x2 t else cf_177_27 N X rk x1 x2 t
theorem cr_177_22 {X : Nat → Option zz_C} {s : mS} {N : Nat} {rk : Nat → List Value → cS → kO} {D : Nat} (hrk : cK1 X s D rk) (hB : 162 ≤ D) {d : Nat} (hd : D + 1 ≤ d) {Q : zz_O → zz_H → Prop} {x1 : Int32} {x2 : Int32} {h : zz_H} {t t' : cS} {o : kY} (hR : kR h t s) (hf : cf_177_22 N X rk x1 x2 t = some (t', o)) (k : (∀ h', kR h' t' s → kE o Q h')) : zz_J zp_P zt_tf zt_fd X d zm_177 22 [(0, .ref 2), (1, .int x1), (2, .int x2)] [.ref 2] h Q := by
  unfold cf_177_22 at hf
  refine cb_177_22 hR  (fun c {h} hR => ?_) (fun c {h} hR => ?_)
  · rw [if_pos c] at hf
    exact cr_177_31 hrk hB hd hR hf k
  · rw [if_neg c] at hf
    exact cr_177_27 hrk hB hd hR hf k
def cf_177_15 (N : Nat) (X : Nat → Option zz_C) (rk : Nat → List Value → cS → kO) (x1 : Int32) (y0 : Int32) (t : cS) : kO := if y0 = 3 then cf_177_27 N X rk x1 y0 t else cf_177_22 N X rk x1 y0 t
theorem cr_177_15 {X : Nat → Option zz_C} {s : mS} {N : Nat} {rk : Nat → List Value → cS → kO} {D : Nat} (hrk : cK1 X s D rk) (hB : 162 ≤ D) {d : Nat} (hd : D + 1 ≤ d) {Q : zz_O → zz_H → Prop} {x1 : Int32} {y0 : Int32} {h : zz_H} {t t' : cS} {o : kY} (hR : kR h t s) (hf : cf_177_15 N X rk x1 y0 t = some (t', o)) (k : (∀ h', kR h' t' s → kE o Q h')) : zz_J zp_P zt_tf zt_fd X d zm_177 15 [(0, .ref 2), (1, .int x1)] [.int y0] h Q := by
  unfold cf_177_15 at hf
  refine cb_177_15 hR  (fun c {h} hR => ?_) (fun c {h} hR => ?_)
  · rw [if_pos c] at hf
    exact cr_177_27 hrk hB hd hR hf k
  · rw [if_neg c] at hf
    exact cr_177_22 hrk hB hd hR hf k
def cf_177_7 (N : Nat) (X : Nat → Option zz_C) (rk : Nat → List Value → cS → kO) (y0 : Int32) (t : cS) : kO := ko_call 10 (cf_42 N X  t) (fun g1 v1 => co_i v1 (fun y => cf_177_15 N X rk y0 y g1))
theorem cr_177_7 {X : Nat → Option zz_C} {s : mS} {N : Nat} {rk : Nat → List Value → cS → kO} {D : Nat} (hrk : cK1 X s D rk) (hB : 162 ≤ D) {d : Nat} (hd : D + 1 ≤ d) {Q : zz_O → zz_H → Prop} {y0 : Int32} {h : zz_H} {t t' : cS} {o : kY} (hR : kR h t s) (hf : cf_177_7 N X rk y0 t = some (t', o)) (k : (∀ h', kR h' t' s → kE o Q h')) : zz_J zp_P zt_tf zt_fd X d zm_177 7 [(0, .ref 2)] [.int y0] h Q := by
  unfold cf_177_7 at hf
  obtain ⟨d', rfl⟩ : ∃ d', d = d' + 1 := ⟨d - 1, by omega⟩
  refine cb_177_7 hR  (fun {h} hR => ?_)
  rcases ko_call_ok hf with ⟨g1, v1, er, hf⟩ | ⟨g1, er, hq⟩
  · obtain ⟨y, hv, hf2⟩ := co_i_ok hf
    clear hf
    have hf := hf2
    clear hf2
    subst hv
    refine cr_42 (by omega) hR er (fun h hR => ?_)
    exact cr_177_15 hrk hB hd hR hf k
  · refine cr_42 (by omega) hR er (fun h hR => ?_)
    exact ko_thrown hq hR k
def cf_177_0 (N : Nat) (X : Nat → Option zz_C) (rk : Nat → List Value → cS → kO)  (t : cS) : kO := ko_call 10 (cf_243 N X  t) (fun g1 v1 => co_i v1 (fun y => cf_177_7 N X rk y g1))
theorem cr_177_0 {X : Nat → Option zz_C} {s : mS} {N : Nat} {rk : Nat → List Value → cS → kO} {D : Nat} (hrk : cK1 X s D rk) (hB : 162 ≤ D) {d : Nat} (hd : D + 1 ≤ d) {Q : zz_O → zz_H → Prop}  {h : zz_H} {t t' : cS} {o : kY} (hR : kR h t s) (hf : cf_177_0 N X rk  t = some (t', o)) (k : (∀ h', kR h' t' s → kE o Q h')) : zz_J zp_P zt_tf zt_fd X d zm_177 0 [(0, .ref 2)] [] h Q := by
  unfold cf_177_0 at hf
  obtain ⟨d', rfl⟩ : ∃ d', d = d' + 1 := ⟨d - 1, by omega⟩
  refine cb_177_0 hR  (fun {h} hR => ?_)
  rcases ko_call_ok hf with ⟨g1, v1, er, hf⟩ | ⟨g1, er, hq⟩
  · obtain ⟨y, hv, hf2⟩ := co_i_ok hf
    clear hf
    have hf := hf2
    clear hf2
    subst hv
    refine cr_243 (by omega) hR er (fun h hR => ?_)
    exact cr_177_7 hrk hB hd hR hf k
  · refine cr_243 (by omega) hR er (fun h hR => ?_)
    exact ko_thrown hq hR k
/-- statement -/
def cf_177 (N : Nat) (X : Nat → Option zz_C) (rk : Nat → List Value → cS → kO)  (t : cS) : kO := cf_177_0 N X rk  t
theorem cr_177 {X : Nat → Option zz_C} {s : mS} {N : Nat} {rk : Nat → List Value → cS → kO} {D : Nat} (hrk : cK1 X s D rk) (hB : 162 ≤ D) {d : Nat} (hd : D + 1 ≤ d) {Q : zz_O → zz_H → Prop}  {h : zz_H} {t t' : cS} {o : kY} (hR : kR h t s) (hf : cf_177 N X rk  t = some (t', o)) (k : ∀ h', kR h' t' s → kE o Q h') : zz_J zp_P zt_tf zt_fd X d zm_177 0 [(0, .ref 2)] [] h Q := by
  unfold cf_177 at hf
  exact zz_J.weak (cr_177_0 hrk hB hd hR hf k) rfl ⟨rfl, trivial⟩
/-! yX5_ifStatement -/
theorem cb_181_0 {X : Nat → Option zz_C} {h : zz_H} {t : cS} {s : mS} {d : Nat} {Q : zz_O → zz_H → Prop} {x1 : Int32} (hR : kR h t s) (k : ∀ {h : zz_H}, kR h t s → zz_J zp_P zt_tf zt_fd X d zm_46 0 [(0, .ref 3)] [] h (zz_after 10 Q (fun v h' => zz_J zp_P zt_tf zt_fd X (d + 1) zm_181 7 [(0, .ref 2), (1, .int x1)] (v.toList ++ []) h' Q))) : zz_J zp_P zt_tf zt_fd X (d + 1) zm_181 0 [(0, .ref 2), (1, .int x1)] [] h Q := by
  refine zz_J.n 1 rfl rfl rfl ?_
  refine zz_J.g 4 rfl (hR.gv (v := .ref 3) ko_2 (by decide) rfl) rfl ?_
  refine zz_J.cv 7 (as := []) rfl rfl (hR.clO ko_3 (by decide) (by decide)) (by decide) (Nat.le_of_ble_eq_true rfl) (Nat.le_of_ble_eq_true rfl) rfl (Nat.le_of_ble_eq_true rfl) rfl ?_
  refine zz_J.mono (k hR) ?_
  intro o h' hE
  cases o with
  | inl v => exact zz_J.weak hE rfl ⟨rfl, rfl, trivial⟩
  | inr q => exact hE
theorem cb_181_7 {X : Nat → Option zz_C} {h : zz_H} {t : cS} {s : mS} {d : Nat} {Q : zz_O → zz_H → Prop} {x1 : Int32} (hR : kR h t s) (k : ∀ {h : zz_H}, kR h t s → zz_J zp_P zt_tf zt_fd X d zm_183 0 [(0, .ref 2), (1, .int x1)] [] h (zz_after 5 Q (fun v h' => zz_J zp_P zt_tf zt_fd X (d + 1) zm_181 12 [(0, .ref 2), (1, .int x1)] (v.toList ++ []) h' Q))) : zz_J zp_P zt_tf zt_fd X (d + 1) zm_181 7 [(0, .ref 2), (1, .int x1)] [] h Q := by
  refine zz_J.n 8 rfl rfl rfl ?_
  refine zz_J.n 9 rfl rfl rfl ?_
  refine zz_J.cv 12 (as := []) rfl rfl (hR.clO ko_2 (by decide) (by decide)) (by decide) (Nat.le_of_ble_eq_true rfl) (Nat.le_of_ble_eq_true rfl) rfl (Nat.le_of_ble_eq_true rfl) rfl ?_
  refine zz_J.mono (k hR) ?_
  intro o h' hE
  cases o with
  | inl v => exact zz_J.weak hE rfl ⟨rfl, rfl, trivial⟩
  | inr q => exact hE
theorem cb_181_12 {X : Nat → Option zz_C} {h : zz_H} {t : cS} {s : mS} {d : Nat} {Q : zz_O → zz_H → Prop} {x1 : Int32} {y0 : Int32} (hR : kR h t s) (k : ∀ {h : zz_H}, kR h t s → zz_J zp_P zt_tf zt_fd X d zm_176 0 [(0, .ref 2)] [] h (zz_after 5 Q (fun v h' => zz_J zp_P zt_tf zt_fd X (d + 1) zm_181 17 [(0, .ref 2), (1, .int x1), (2, .int y0)] (v.toList ++ []) h' Q))) : zz_J zp_P zt_tf zt_fd X (d + 1) zm_181 12 [(0, .ref 2), (1, .int x1)] [.int y0] h Q := by
  refine zz_J.n 13 rfl rfl rfl ?_
  refine zz_J.n 14 rfl rfl rfl ?_
  refine zz_J.cv 17 (as := []) rfl rfl (hR.clO ko_2 (by decide) (by decide)) (by decide) (Nat.le_of_ble_eq_true rfl) (Nat.le_of_ble_eq_true rfl) rfl (Nat.le_of_ble_eq_true rfl) rfl ?_
  refine zz_J.mono (k hR) ?_
  intro o h' hE
  cases o with
  | inl v => exact zz_J.weak hE rfl ⟨rfl, rfl, rfl, trivial⟩
  | inr q => exact hE
theorem cb_181_17 {X : Nat → Option zz_C} {h : zz_H} {t : cS} {s : mS} {d : Nat} {Q : zz_O → zz_H → Prop} {x1 : Int32} {x2 : Int32} (hR : kR h t s) (k : ∀ {h : zz_H}, kR h t s → zz_J zp_P zt_tf zt_fd X d zm_42 0 [(0, .ref 3)] [] h (zz_after 10 Q (fun v h' => zz_J zp_P zt_tf zt_fd X (d + 1) zm_181 24 [(0, .ref 2), (1, .int x1), (2, .int x2)] (v.toList ++ []) h' Q))) : zz_J zp_P zt_tf zt_fd X (d + 1) zm_181 17 [(0, .ref 2), (1, .int x1), (2, .int x2)] [] h Q := by
  refine zz_J.n 18 rfl rfl rfl ?_
  refine zz_J.g 21 rfl (hR.gv (v := .ref 3) ko_2 (by decide) rfl) rfl ?_
  refine zz_J.cv 24 (as := []) rfl rfl (hR.clO ko_3 (by decide) (by decide)) (by decide) (Nat.le_of_ble_eq_true rfl) (Nat.le_of_ble_eq_true rfl) rfl (Nat.le_of_ble_eq_true rfl) rfl ?_
  refine zz_J.mono (k hR) ?_
  intro o h' hE
  cases o with
  | inl v => exact zz_J.weak hE rfl ⟨rfl, rfl, rfl, trivial⟩
  | inr q => exact hE
theorem cb_181_24 {X : Nat → Option zz_C} {h : zz_H} {t : cS} {s : mS} {d : Nat} {Q : zz_O → zz_H → Prop} {x1 : Int32} {x2 : Int32} {y0 : Int32} (hR : kR h t s) (k1 : ¬ y0 = 4 → (∀ {h : zz_H}, kR h t s → zz_J zp_P zt_tf zt_fd X d zm_181 38 [(0, .ref 2), (2, .int x2)] [] h Q)) (k2 : ¬ ¬ y0 = 4 → (∀ {h : zz_H}, kR h t s → zz_J zp_P zt_tf zt_fd X d zm_181 28 [(0, .ref 2), (1, .int x1), (2, .int x2)] [] h Q)) : zz_J zp_P zt_tf zt_fd X d zm_181 24 [(0, .ref 2), (1, .int x1), (2, .int x2)] [.int y0] h Q := by
  refine zz_J.c 25 (.int 4) rfl rfl rfl rfl ?_
  refine zz_J.b2 38 28 (A := ¬ y0 = 4) rfl (zz_cond_ne _ _) (by decide) rfl rfl (fun c => ?_) (fun c => ?_)
  · exact zz_J.weak (k1 c hR) rfl ⟨rfl, rfl, trivial⟩
  · exact zz_J.weak (k2 c hR) rfl ⟨rfl, rfl, rfl, trivial⟩
theorem cb_181_28 {X : Nat → Option zz_C} {h : zz_H} {t : cS} {s : mS} {d : Nat} {Q : zz_O → zz_H → Prop} {x1 : Int32} {x2 : Int32} (hR : kR h t s) (k : ∀ {h : zz_H}, kR h t s → zz_J zp_P zt_tf zt_fd X d zm_199 0 [(0, .ref 2)] [] h (zz_after 5 Q (fun v h' => zz_J zp_P zt_tf zt_fd X (d + 1) zm_181 32 [(0, .ref 2), (1, .int x1), (2, .int x2)] (v.toList ++ []) h' Q))) : zz_J zp_P zt_tf zt_fd X (d + 1) zm_181 28 [(0, .ref 2), (1, .int x1), (2, .int x2)] [] h Q := by
  refine zz_J.n 29 rfl rfl rfl ?_
  refine zz_J.cv 32 (as := []) rfl rfl (hR.clO ko_2 (by decide) (by decide)) (by decide) (Nat.le_of_ble_eq_true rfl) (Nat.le_of_ble_eq_true rfl) rfl (Nat.le_of_ble_eq_true rfl) rfl ?_
  refine zz_J.mono (k hR) ?_
  intro o h' hE
  cases o with
  | inl v => exact zz_J.weak hE rfl ⟨rfl, rfl, rfl, trivial⟩
  | inr q => exact hE
theorem cb_181_32 {X : Nat → Option zz_C} {h : zz_H} {t : cS} {s : mS} {d : Nat} {Q : zz_O → zz_H → Prop} {x1 : Int32} {x2 : Int32} {y0 : Nat} (hR : kR h t s) (e0 : (zz_out < y0 ∧ y0 ≤ zz_out + 41) ∧ zz_out < (zz_out + 3) ∧ (zz_out + 3) ≤ zz_out + 41) (k1 : zz_ac .eq y0 (zz_out + 3) = true → (∀ {h : zz_H}, kR h t s → zz_J zp_P zt_tf zt_fd X d zm_181 54 [(0, .ref 2), (1, .int x1), (2, .int x2)] [] h Q)) (k2 : ¬ zz_ac .eq y0 (zz_out + 3) = true → (∀ {h : zz_H}, kR h t s → zz_J zp_P zt_tf zt_fd X d zm_181 38 [(0, .ref 2), (2, .int x2)] [] h Q)) : zz_J zp_P zt_tf zt_fd X d zm_181 32 [(0, .ref 2), (1, .int x1), (2, .int x2)] [.ref y0] h Q := by
  refine zz_J.c 35 (.ref (zz_out + 3)) rfl rfl rfl rfl ?_
  refine zz_J.ba 54 38 rfl e0 (by decide) rfl rfl (fun c => ?_) (fun c => ?_)
  · exact zz_J.weak (k1 c hR) rfl ⟨rfl, rfl, rfl, trivial⟩
  · exact zz_J.weak (k2 c hR) rfl ⟨rfl, rfl, trivial⟩
theorem cb_181_38 {X : Nat → Option zz_C} {h : zz_H} {t : cS} {s : mS} {d : Nat} {Q : zz_O → zz_H → Prop} {x2 : Int32} (hR : kR h t s) {w0 : Nat} (e0 : (kP t 2 1) = some w0) {w1 : Nat} (e1 : (kP t 2 1) = some w1) (e2 : w1 = 12 ∨ w1 = 21) (k : ∀ {h : zz_H}, kR h t s → zz_J zp_P zt_tf zt_fd X d zm_203 0 [(0, .ref w1)] [] h (zz_after 6 Q (fun v h' => zz_J zp_P zt_tf zt_fd X (d + 1) zm_181 50 [] (v.toList ++ [.int x2, .ref w0]) h' Q))) : zz_J zp_P zt_tf zt_fd X (d + 1) zm_181 38 [(0, .ref 2), (2, .int x2)] [] h Q := by
  refine zz_J.n 39 rfl rfl rfl ?_
  refine zz_J.g 42 rfl (hR.gv (v := .ref w0) ko_2 (by decide) ((congrArg (fun q => some (zz_rv q)) e0).trans rfl)) rfl ?_
  refine zz_J.n 43 rfl rfl rfl ?_
  refine zz_J.n 44 rfl rfl rfl ?_
  refine zz_J.g 47 rfl (hR.gv (v := .ref w1) ko_2 (by decide) ((congrArg (fun q => some (zz_rv q)) e1).trans rfl)) rfl ?_
  refine zz_J.cv 50 (as := [.int x2, .ref w0]) rfl rfl (hR.clO (ko_P e2) (by decide) (by decide)) (by decide) (Nat.le_of_ble_eq_true rfl) (Nat.le_of_ble_eq_true rfl) rfl (Nat.le_of_ble_eq_true rfl) rfl ?_
  refine zz_J.mono (k hR) ?_
  intro o h' hE
  cases o with
  | inl v => exact zz_J.weak hE rfl trivial
  | inr q => exact hE
theorem cb_181_50 {X : Nat → Option zz_C} {h : zz_H} {t : cS} {s : mS} {d : Nat} {Q : zz_O → zz_H → Prop} {y0 : Nat} {y1 : Int32} {y2 : Int32} (hR : kR h t s) (e0 : y0 = 12 ∨ y0 = 21) (k : ∀ {h : zz_H}, kR h t s → zz_J zp_P zt_tf zt_fd X d zm_210 0 [(0, .ref y0), (1, .int y1), (2, .int y2)] [] h (zz_after 6 Q (fun v h' => zz_J zp_P zt_tf zt_fd X (d + 1) zm_181 53 [] (v.toList ++ []) h' Q))) : zz_J zp_P zt_tf zt_fd X (d + 1) zm_181 50 [] [.int y2, .int y1, .ref y0] h Q := by
  refine zz_J.cv 53 (as := []) rfl rfl (hR.clO (ko_P e0) (by decide) (by decide)) (by decide) (Nat.le_of_ble_eq_true rfl) (Nat.le_of_ble_eq_true rfl) rfl (Nat.le_of_ble_eq_true rfl) rfl ?_
  refine zz_J.mono (k hR) ?_
  intro o h' hE
  cases o with
  | inl v => exact zz_J.weak hE rfl trivial
  | inr q => exact hE
theorem cb_181_53 {X : Nat → Option zz_C} {h : zz_H} {t : cS} {s : mS} {d : Nat} {Q : zz_O → zz_H → Prop}  (hR : kR h t s) (k : ∀ {h : zz_H}, kR h t s → Q (.inl none) h) : zz_J zp_P zt_tf zt_fd X d zm_181 53 [] [] h Q := by
  refine zz_J.ret rfl rfl rfl ?_
  exact k hR
theorem cb_181_54 {X : Nat → Option zz_C} {h : zz_H} {t : cS} {s : mS} {d : Nat} {Q : zz_O → zz_H → Prop} {x1 : Int32} {x2 : Int32} (hR : kR h t s) (k : ∀ {h : zz_H}, kR h t s → zz_J zp_P zt_tf zt_fd X d zm_46 0 [(0, .ref 3)] [] h (zz_after 10 Q (fun v h' => zz_J zp_P zt_tf zt_fd X (d + 1) zm_181 61 [(0, .ref 2), (1, .int x1), (2, .int x2)] (v.toList ++ []) h' Q))) : zz_J zp_P zt_tf zt_fd X (d + 1) zm_181 54 [(0, .ref 2), (1, .int x1), (2, .int x2)] [] h Q := by
  refine zz_J.n 55 rfl rfl rfl ?_
  refine zz_J.g 58 rfl (hR.gv (v := .ref 3) ko_2 (by decide) rfl) rfl ?_
  refine zz_J.cv 61 (as := []) rfl rfl (hR.clO ko_3 (by decide) (by decide)) (by decide) (Nat.le_of_ble_eq_true rfl) (Nat.le_of_ble_eq_true rfl) rfl (Nat.le_of_ble_eq_true rfl) rfl ?_
  refine zz_J.mono (k hR) ?_
  intro o h' hE
  cases o with
  | inl v => exact zz_J.weak hE rfl ⟨rfl, rfl, rfl, trivial⟩
  | inr q => exact hE
theorem cb_181_61 {X : Nat → Option zz_C} {h : zz_H} {t : cS} {s : mS} {d : Nat} {Q : zz_O → zz_H → Prop} {x1 : Int32} {x2 : Int32} (hR : kR h t s) {w0 : Nat} (e0 : (kP t 2 1) = some w0) (e1 : w0 = 12 ∨ w0 = 21) (k : ∀ {h : zz_H}, kR h t s → zz_J zp_P zt_tf zt_fd X d zm_209 0 [(0, .ref w0), (1, .int 4), (2, .int 0), (3, .int x1)] [] h (zz_after 6 Q (fun v h' => zz_J zp_P zt_tf zt_fd X (d + 1) zm_181 71 [(0, .ref 2), (2, .int x2)] (v.toList ++ []) h' Q))) : zz_J zp_P zt_tf zt_fd X (d + 1) zm_181 61 [(0, .ref 2), (1, .int x1), (2, .int x2)] [] h Q := by
  refine zz_J.n 62 rfl rfl rfl ?_
  refine zz_J.g 65 rfl (hR.gv (v := .ref w0) ko_2 (by decide) ((congrArg (fun q => some (zz_rv q)) e0).trans rfl)) rfl ?_
  refine zz_J.c 66 (.int 4) rfl rfl rfl rfl ?_
  refine zz_J.c 67 (.int 0) rfl rfl rfl rfl ?_
  refine zz_J.n 68 rfl rfl rfl ?_
  refine zz_J.cv 71 (as := []) rfl rfl (hR.clO (ko_P e1) (by decide) (by decide)) (by decide) (Nat.le_of_ble_eq_true rfl) (Nat.le_of_ble_eq_true rfl) rfl (Nat.le_of_ble_eq_true rfl) rfl ?_
  refine zz_J.mono (k hR) ?_
  intro o h' hE
  cases o with
  | inl v => exact zz_J.weak hE rfl ⟨rfl, rfl, trivial⟩
  | inr q => exact hE
theorem cb_181_71 {X : Nat → Option zz_C} {h : zz_H} {t : cS} {s : mS} {d : Nat} {Q : zz_O → zz_H → Prop} {x2 : Int32} {y0 : Int32} (hR : kR h t s) {w0 : Nat} (e0 : (kP t 2 1) = some w0) {w1 : Nat} (e1 : (kP t 2 1) = some w1) (e2 : w1 = 12 ∨ w1 = 21) (k : ∀ {h : zz_H}, kR h t s → zz_J zp_P zt_tf zt_fd X d zm_203 0 [(0, .ref w1)] [] h (zz_after 6 Q (fun v h' => zz_J zp_P zt_tf zt_fd X (d + 1) zm_181 84 [(0, .ref 2), (3, .int y0)] (v.toList ++ [.int x2, .ref w0]) h' Q))) : zz_J zp_P zt_tf zt_fd X (d + 1) zm_181 71 [(0, .ref 2), (2, .int x2)] [.int y0] h Q := by
  refine zz_J.n 72 rfl rfl rfl ?_
  refine zz_J.n 73 rfl rfl rfl ?_
  refine zz_J.g 76 rfl (hR.gv (v := .ref w0) ko_2 (by decide) ((congrArg (fun q => some (zz_rv q)) e0).trans rfl)) rfl ?_
  refine zz_J.n 77 rfl rfl rfl ?_
  refine zz_J.n 78 rfl rfl rfl ?_
  refine zz_J.g 81 rfl (hR.gv (v := .ref w1) ko_2 (by decide) ((congrArg (fun q => some (zz_rv q)) e1).trans rfl)) rfl ?_
  refine zz_J.cv 84 (as := [.int x2, .ref w0]) rfl rfl (hR.clO (ko_P e2) (by decide) (by decide)) (by decide) (Nat.le_of_ble_eq_true rfl) (Nat.le_of_ble_eq_true rfl) rfl (Nat.le_of_ble_eq_true rfl) rfl ?_
  refine zz_J.mono (k hR) ?_
  intro o h' hE
  cases o with
  | inl v => exact zz_J.weak hE rfl ⟨rfl, rfl, trivial⟩
  | inr q => exact hE
theorem cb_181_84 {X : Nat → Option zz_C} {h : zz_H} {t : cS} {s : mS} {d : Nat} {Q : zz_O → zz_H → Prop} {x3 : Int32} {y0 : Nat} {y1 : Int32} {y2 : Int32} (hR : kR h t s) (e0 : y0 = 12 ∨ y0 = 21) (k : ∀ {h : zz_H}, kR h t s → zz_J zp_P zt_tf zt_fd X d zm_210 0 [(0, .ref y0), (1, .int y1), (2, .int y2)] [] h (zz_after 6 Q (fun v h' => zz_J zp_P zt_tf zt_fd X (d + 1) zm_181 87 [(0, .ref 2), (3, .int x3)] (v.toList ++ []) h' Q))) : zz_J zp_P zt_tf zt_fd X (d + 1) zm_181 84 [(0, .ref 2), (3, .int x3)] [.int y2, .int y1, .ref y0] h Q := by
  refine zz_J.cv 87 (as := []) rfl rfl (hR.clO (ko_P e0) (by decide) (by decide)) (by decide) (Nat.le_of_ble_eq_true rfl) (Nat.le_of_ble_eq_true rfl) rfl (Nat.le_of_ble_eq_true rfl) rfl ?_
  refine zz_J.mono (k hR) ?_
  intro o h' hE
  cases o with
  | inl v => exact zz_J.weak hE rfl ⟨rfl, rfl, trivial⟩
  | inr q => exact hE
theorem cb_181_87 {X : Nat → Option zz_C} {h : zz_H} {t : cS} {s : mS} {d : Nat} {Q : zz_O → zz_H → Prop} {x3 : Int32} (hR : kR h t s) (k : ∀ {h : zz_H}, kR h t s → zz_J zp_P zt_tf zt_fd X d zm_176 0 [(0, .ref 2)] [] h (zz_after 5 Q (fun v h' => zz_J zp_P zt_tf zt_fd X (d + 1) zm_181 91 [(0, .ref 2), (3, .int x3)] (v.toList ++ []) h' Q))) : zz_J zp_P zt_tf zt_fd X (d + 1) zm_181 87 [(0, .ref 2), (3, .int x3)] [] h Q := by
  refine zz_J.n 88 rfl rfl rfl ?_
  refine zz_J.cv 91 (as := []) rfl rfl (hR.clO ko_2 (by decide) (by decide)) (by decide) (Nat.le_of_ble_eq_true rfl) (Nat.le_of_ble_eq_true rfl) rfl (Nat.le_of_ble_eq_true rfl) rfl ?_
  refine zz_J.mono (k hR) ?_
  intro o h' hE
  cases o with
  | inl v => exact zz_J.weak hE rfl ⟨rfl, rfl, trivial⟩
  | inr q => exact hE
theorem cb_181_91 {X : Nat → Option zz_C} {h : zz_H} {t : cS} {s : mS} {d : Nat} {Q : zz_O → zz_H → Prop} {x3 : Int32} (hR : kR h t s) {w0 : Nat} (e0 : (kP t 2 1) = some w0) {w1 : Nat} (e1 : (kP t 2 1) = some w1) (e2 : w1 = 12 ∨ w1 = 21) (k : ∀ {h : zz_H}, kR h t s → zz_J zp_P zt_tf zt_fd X d zm_203 0 [(0, .ref w1)] [] h (zz_after 6 Q (fun v h' => zz_J zp_P zt_tf zt_fd X (d + 1) zm_181 103 [] (v.toList ++ [.int x3, .ref w0]) h' Q))) : zz_J zp_P zt_tf zt_fd X (d + 1) zm_181 91 [(0, .ref 2), (3, .int x3)] [] h Q := by
  refine zz_J.n 92 rfl rfl rfl ?_
  refine zz_J.g 95 rfl (hR.gv (v := .ref w0) ko_2 (by decide) ((congrArg (fun q => some (zz_rv q)) e0).trans rfl)) rfl ?_
  refine zz_J.n 96 rfl rfl rfl ?_
  refine zz_J.n 97 rfl rfl rfl ?_
  refine zz_J.g 100 rfl (hR.gv (v := .ref w1) ko_2 (by decide) ((congrArg (fun q => some (zz_rv q)) e1).trans rfl)) rfl ?_
  refine zz_J.cv 103 (as := [.int x3, .ref w0]) rfl rfl (hR.clO (ko_P e2) (by decide) (by decide)) (by decide) (Nat.le_of_ble_eq_true rfl) (Nat.le_of_ble_eq_true rfl) rfl (Nat.le_of_ble_eq_true rfl) rfl ?_
  refine zz_J.mono (k hR) ?_
  intro o h' hE
  cases o with
  | inl v => exact zz_J.weak hE rfl trivial
  | inr q => exact hE
theorem cb_181_103 {X : Nat → Option zz_C} {h : zz_H} {t : cS} {s : mS} {d : Nat} {Q : zz_O → zz_H → Prop} {y0 : Nat} {y1 : Int32} {y2 : Int32} (hR : kR h t s) (e0 : y0 = 12 ∨ y0 = 21) (k : ∀ {h : zz_H}, kR h t s → zz_J zp_P zt_tf zt_fd X d zm_210 0 [(0, .ref y0), (1, .int y1), (2, .int y2)] [] h (zz_after 6 Q (fun v h' => zz_J zp_P zt_tf zt_fd X (d + 1) zm_181 106 [] (v.toList ++ []) h' Q))) : zz_J zp_P zt_tf zt_fd X (d + 1) zm_181 103 [] [.int y2, .int y1, .ref y0] h Q := by
  refine zz_J.cv 106 (as := []) rfl rfl (hR.clO (ko_P e0) (by decide) (by decide)) (by decide) (Nat.le_of_ble_eq_true rfl) (Nat.le_of_ble_eq_true rfl) rfl (Nat.le_of_ble_eq_true rfl) rfl ?_
  refine zz_J.mono (k hR) ?_
  intro o h' hE
  cases o with
  | inl v => exact zz_J.weak hE rfl trivial
  | inr q => exact hE
theorem cb_181_106 {X : Nat → Option zz_C} {h : zz_H} {t : cS} {s : mS} {d : Nat} {Q : zz_O → zz_H → Prop}  (hR : kR h t s) (k : ∀ {h : zz_H}, kR h t s → Q (.inl none) h) : zz_J zp_P zt_tf zt_fd X d zm_181 106 [] [] h Q := by
  refine zz_J.ret rfl rfl rfl ?_
  exact k hR
def cf_181_53 (N : Nat) (X : Nat → Option zz_C) (rk : Nat → List Value → cS → kO)  (t : cS) : kO := some (t, .inl none)
theorem cr_181_53 {X : Nat → Option zz_C} {s : mS} {N : Nat} {rk : Nat → List Value → cS → kO} {D : Nat} (hrk : cK1 X s D rk) (hB : 162 ≤ D) {d : Nat} (hd : D + 1 ≤ d) {Q : zz_O → zz_H → Prop}  {h : zz_H} {t t' : cS} {o : kY} (hR : kR h t s) (hf : cf_181_53 N X rk  t = some (t', o)) (k : (∀ h', kR h' t' s → kE o Q h')) : zz_J zp_P zt_tf zt_fd X d zm_181 53 [] [] h Q := by
  unfold cf_181_53 at hf
  cases hf
  exact cb_181_53 hR  (fun {h} hR => k h hR)
def cf_181_50 (N : Nat) (X : Nat → Option zz_C) (rk : Nat → List Value → cS → kO) (y0 : Nat) (y1 : Int32) (y2 : Int32) (t : cS) : kO := if y0 = 12 ∨ y0 = 21 then (ko_call 6 (cf_210 N X y0 y1 y2 t) (fun g1 v1 => co_v v1 (cf_181_53 N X rk  g1))) else none
theorem cr_181_50 {X : Nat → Option zz_C} {s : mS} {N : Nat} {rk : Nat → List Value → cS → kO} {D : Nat} (hrk : cK1 X s D rk) (hB : 162 ≤ D) {d : Nat} (hd : D + 1 ≤ d) {Q : zz_O → zz_H → Prop} {y0 : Nat} {y1 : Int32} {y2 : Int32} {h : zz_H} {t t' : cS} {o : kY} (hR : kR h t s) (hf : cf_181_50 N X rk y0 y1 y2 t = some (t', o)) (k : (∀ h', kR h' t' s → kE o Q h')) : zz_J zp_P zt_tf zt_fd X d zm_181 50 [] [.int y2, .int y1, .ref y0] h Q := by
  unfold cf_181_50 at hf
  obtain ⟨e0, hf⟩ := ko_if hf
  obtain ⟨d', rfl⟩ : ∃ d', d = d' + 1 := ⟨d - 1, by omega⟩
  refine cb_181_50 hR e0 (fun {h} hR => ?_)
  rcases ko_call_ok hf with ⟨g1, v1, er, hf⟩ | ⟨g1, er, hq⟩
  · obtain ⟨hv, hf2⟩ := co_v_ok hf
    clear hf
    have hf := hf2
    clear hf2
    subst hv
    refine cr_210 (by omega) hR er (fun h hR => ?_)
    exact cr_181_53 hrk hB hd hR hf k
  · refine cr_210 (by omega) hR er (fun h hR => ?_)
    exact ko_thrown hq hR k
def cf_181_38 (N : Nat) (X : Nat → Option zz_C) (rk : Nat → List Value → cS → kO) (x2 : Int32) (t : cS) : kO := co_b ((kP t 2 1)) (fun w0 => co_b ((kP t 2 1)) (fun w1 => if w1 = 12 ∨ w1 = 21 then (ko_call 6 (cf_203 N X w1 t) (fun g1 v1 => co_i v1 (fun y => cf_181_50 N X rk w0 x2 y g1))) else none))
theorem cr_181_38 {X : Nat → Option zz_C} {s : mS} {N : Nat} {rk : Nat → List Value → cS → kO} {D : Nat} (hrk : cK1 X s D rk) (hB : 162 ≤ D) {d : Nat} (hd : D + 1 ≤ d) {Q : zz_O → zz_H → Prop} {x2 : Int32} {h : zz_H} {t t' : cS} {o : kY} (hR : kR h t s) (hf : cf_181_38 N X rk x2 t = some (t', o)) (k : (∀ h', kR h' t' s → kE o Q h')) : zz_J zp_P zt_tf zt_fd X d zm_181 38 [(0, .ref 2), (2, .int x2)] [] h Q := by
  unfold cf_181_38 at hf
  obtain ⟨w0, e0, hf⟩ := co_b_ok hf
  obtain ⟨w1, e1, hf⟩ := co_b_ok hf
  obtain ⟨e2, hf⟩ := ko_if hf
  obtain ⟨d', rfl⟩ : ∃ d', d = d' + 1 := ⟨d - 1, by omega⟩
  refine cb_181_38 hR e0 e1 e2 (fun {h} hR => ?_)
  rcases ko_call_ok hf with ⟨g1, v1, er, hf⟩ | ⟨g1, er, hq⟩
  · obtain ⟨y, hv, hf2⟩ := co_i_ok hf
    clear hf
    have hf := hf2
    clear hf2
    subst hv
    refine cr_203 (by omega) hR er (fun h hR => ?_)
    exact cr_181_50 hrk hB hd hR hf k
  · refine cr_203 (by omega) hR er (fun h hR => ?_)
    exact ko_thrown hq hR k
def cf_181_106 (N : Nat) (X : Nat → Option zz_C) (rk : Nat → List Value → cS → kO)  (t : cS) : kO := some (t, .inl none)
theorem cr_181_106 {X : Nat → Option zz_C} {s : mS} {N : Nat} {rk : Nat → List Value → cS → kO} {D : Nat} (hrk : cK1 X s D rk) (hB : 162 ≤ D) {d : Nat} (hd : D + 1 ≤ d) {Q : zz_O → zz_H → Prop}  {h : zz_H} {t t' : cS} {o : kY} (hR : kR h t s) (hf : cf_181_106 N X rk  t = some (t', o)) (k : (∀ h', kR h' t' s → kE o Q h')) : zz_J zp_P zt_tf zt_fd X d zm_181 106 [] [] h Q := by
  unfold cf_181_106 at hf
  cases hf
  exact cb_181_106 hR  (fun {h} hR => k h hR)
def cf_181_103 (N : Nat) (X : Nat → Option zz_C) (rk : Nat → List Value → cS → kO) (y0 : Nat) (y1 : Int32) (y2 : Int32) (t : cS) : kO := if y0 = 12 ∨ y0 = 21 then (ko_call 6 (cf_210 N X y0 y1 y2 t) (fun g1 v1 => co_v v1 (cf_181_106 N X rk  g1))) else none
theorem cr_181_103 {X : Nat → Option zz_C} {s : mS} {N : Nat} {rk : Nat → List Value → cS → kO} {D : Nat} (hrk : cK1 X s D rk) (hB : 162 ≤ D) {d : Nat} (hd : D + 1 ≤ d) {Q : zz_O → zz_H → Prop} {y0 : Nat} {y1 : Int32} {y2 : Int32} {h : zz_H} {t t' : cS} {o : kY} (hR : kR h t s) (hf : cf_181_103 N X rk y0 y1 y2 t = some (t', o)) (k : (∀ h', kR h' t' s → kE o Q h')) : zz_J zp_P zt_tf zt_fd X d zm_181 103 [] [.int y2, .int y1, .ref y0] h Q := by
  unfold cf_181_103 at hf
  obtain ⟨e0, hf⟩ := ko_if hf
  obtain ⟨d', rfl⟩ : ∃ d', d = d' + 1 := ⟨d - 1, by omega⟩
  refine cb_181_103 hR e0 (fun {h} hR => ?_)
  rcases ko_call_ok hf with ⟨g1, v1, er, hf⟩ | ⟨g1, er, hq⟩
  · obtain ⟨hv, hf2⟩ := co_v_ok hf
    clear hf
    have hf := hf2
    clear hf2
    subst hv
    refine cr_210 (by omega) hR er (fun h hR => ?_)
    exact cr_181_106 hrk hB hd hR hf k
  · refine cr_210 (by omega) hR er (fun h hR => ?_)
    exact ko_thrown hq hR k
def cf_181_91 (N : Nat) (X : Nat → Option zz_C) (rk : Nat → List Value → cS → kO) (x3 : Int32) (t : cS) : kO := co_b ((kP t 2 1)) (fun w0 => co_b ((kP t 2 1)) (fun w1 => if w1 = 12 ∨ w1 = 21 then (ko_call 6 (cf_203 N X w1 t) (fun g1 v1 => co_i v1 (fun y => cf_181_103 N X rk w0 x3 y g1))) else none))
theorem cr_181_91 {X : Nat → Option zz_C} {s : mS} {N : Nat} {rk : Nat → List Value → cS → kO} {D : Nat} (hrk : cK1 X s D rk) (hB : 162 ≤ D) {d : Nat} (hd : D + 1 ≤ d) {Q : zz_O → zz_H → Prop} {x3 : Int32} {h : zz_H} {t t' : cS} {o : kY} (hR : kR h t s) (hf : cf_181_91 N X rk x3 t = some (t', o)) (k : (∀ h', kR h' t' s → kE o Q h')) : zz_J zp_P zt_tf zt_fd X d zm_181 91 [(0, .ref 2), (3, .int x3)] [] h Q := by
  unfold cf_181_91 at hf
  obtain ⟨w0, e0, hf⟩ := co_b_ok hf
  obtain ⟨w1, e1, hf⟩ := co_b_ok hf
  obtain ⟨e2, hf⟩ := ko_if hf
  obtain ⟨d', rfl⟩ : ∃ d', d = d' + 1 := ⟨d - 1, by omega⟩
  refine cb_181_91 hR e0 e1 e2 (fun {h} hR => ?_)
  rcases ko_call_ok hf with ⟨g1, v1, er, hf⟩ | ⟨g1, er, hq⟩
  · obtain ⟨y, hv, hf2⟩ := co_i_ok hf
    clear hf
    have hf := hf2
    clear hf2
    subst hv
    refine cr_203 (by omega) hR er (fun h hR => ?_)
    exact cr_181_103 hrk hB hd hR hf k
  · refine cr_203 (by omega) hR er (fun h hR => ?_)
    exact ko_thrown hq hR k
def cf_181_87 (N : Nat) (X : Nat → Option zz_C) (rk : Nat → List Value → cS → kO) (x3 : Int32) (t : cS) : kO := ko_call 5 (rk 176 [] t) (fun g1 v1 => co_v v1 (cf_181_91 N X rk x3 g1))
theorem cr_181_87 {X : Nat → Option zz_C} {s : mS} {N : Nat} {rk : Nat → List Value → cS → kO} {D : Nat} (hrk : cK1 X s D rk) (hB : 162 ≤ D) {d : Nat} (hd : D + 1 ≤ d) {Q : zz_O → zz_H → Prop} {x3 : Int32} {h : zz_H} {t t' : cS} {o : kY} (hR : kR h t s) (hf : cf_181_87 N X rk x3 t = some (t', o)) (k : (∀ h', kR h' t' s → kE o Q h')) : zz_J zp_P zt_tf zt_fd X d zm_181 87 [(0, .ref 2), (3, .int x3)] [] h Q := by
  unfold cf_181_87 at hf
  obtain ⟨d', rfl⟩ : ∃ d', d = d' + 1 := ⟨d - 1, by omega⟩
  refine cb_181_87 hR  (fun {h} hR => ?_)
  rcases ko_call_ok hf with ⟨g1, v1, er, hf⟩ | ⟨g1, er, hq⟩
  · obtain ⟨hv, hf2⟩ := co_v_ok hf
    clear hf
    have hf := hf2
    clear hf2
    subst hv
    refine hrk.1 (by omega) hR er (fun h hR => ?_)
    exact cr_181_91 hrk hB hd hR hf k
  · refine hrk.1 (by omega) hR er (fun h hR => ?_)
    exact ko_thrown hq hR k
def cf_181_84 (N : Nat) (X : Nat → Option zz_C) (rk : Nat → List Value → cS → kO) (x3 : Int32) (y0 : Nat) (y1 : Int32) (y2 : Int32) (t : cS) : kO := if y0 = 12 ∨ y0 = 21 then (ko_call 6 (cf_210 N X y0 y1 y2 t) (fun g1 v1 => co_v v1 (cf_181_87 N X rk x3 g1))) else none
theorem cr_181_84 {X : Nat → Option zz_C} {s : mS} {N : Nat} {rk : Nat → List Value → cS → kO} {D : Nat} (hrk : cK1 X s D rk) (hB : 162 ≤ D) {d : Nat} (hd : D + 1 ≤ d) {Q : zz_O → zz_H → Prop} {x3 : Int32} {y0 : Nat} {y1 : Int32} {y2 : Int32} {h : zz_H} {t t' : cS} {o : kY} (hR : kR h t s) (hf : cf_181_84 N X rk x3 y0 y1 y2 t = some (t', o)) (k : (∀ h', kR h' t' s → kE o Q h')) : zz_J zp_P zt_tf zt_fd X d zm_181 84 [(0, .ref 2), (3, .int x3)] [.int y2, .int y1, .ref y0] h Q := by
  unfold cf_181_84 at hf
  obtain ⟨e0, hf⟩ := ko_if hf
  obtain ⟨d', rfl⟩ : ∃ d', d = d' + 1 := ⟨d - 1, by omega⟩
  refine cb_181_84 hR e0 (fun {h} hR => ?_)
  rcases ko_call_ok hf with ⟨g1, v1, er, hf⟩ | ⟨g1, er, hq⟩
  · obtain ⟨hv, hf2⟩ := co_v_ok hf
    clear hf
    have hf := hf2
    clear hf2
    subst hv
    refine cr_210 (by omega) hR er (fun h hR => ?_)
    exact cr_181_87 hrk hB hd hR hf k
  · refine cr_210 (by omega) hR er (fun h hR => ?_)
    exact ko_thrown hq hR k
def cf_181_71 (N : Nat) (X : Nat → Option zz_C) (rk : Nat → List Value → cS → kO) (x2 : Int32) (y0 : Int32) (t : cS) : kO := co_b ((kP t 2 1)) (fun w0 => co_b ((kP t 2 1)) (fun w1 => if w1 = 12 ∨ w1 = 21 then (ko_call 6 (cf_203 N X w1 t) (fun g1 v1 => co_i v1 (fun y => cf_181_84 N X rk y0 w0 x2 y g1))) else none))
theorem cr_181_71 {X : Nat → Option zz_C} {s : mS} {N : Nat} {rk : Nat → List Value → cS → kO} {D : Nat} (hrk : cK1 X s D rk) (hB : 162 ≤ D) {d : Nat} (hd : D + 1 ≤ d) {Q : zz_O → zz_H → Prop} {x2 : Int32} {y0 : Int32} {h : zz_H} {t t' : cS} {o : kY} (hR : kR h t s) (hf : cf_181_71 N X rk x2 y0 t = some (t', o)) (k : (∀ h', kR h' t' s → kE o Q h')) : zz_J zp_P zt_tf zt_fd X d zm_181 71 [(0, .ref 2), (2, .int x2)] [.int y0] h Q := by
  unfold cf_181_71 at hf
  obtain ⟨w0, e0, hf⟩ := co_b_ok hf
  obtain ⟨w1, e1, hf⟩ := co_b_ok hf
  obtain ⟨e2, hf⟩ := ko_if hf
  obtain ⟨d', rfl⟩ : ∃ d', d = d' + 1 := ⟨d - 1, by omega⟩
  refine cb_181_71 hR e0 e1 e2 (fun {h} hR => ?_)
  rcases ko_call_ok hf with ⟨g1, v1, er, hf⟩ | ⟨g1, er, hq⟩
  · obtain ⟨y, hv, hf2⟩ := co_i_ok hf
    clear hf
    have hf := hf2
    clear hf2
    subst hv
    refine cr_203 (by omega) hR er (fun h hR => ?_)
    exact cr_181_84 hrk hB hd hR hf k
  · refine cr_203 (by omega) hR er (fun h hR => ?_)
    exact ko_thrown hq hR k
def cf_181_61 (N : Nat) (X : Nat → Option zz_C) (rk : Nat → List Value → cS → kO) (x1 : Int32) (x2 : Int32) (t : cS) : kO := co_b ((kP t 2 1)) (fun w0 => if w0 = 12 ∨ w0 = 21 then (ko_call 6 (cf_209 N X w0 4 0 x1 t) (fun g1 v1 => co_i v1 (fun y => cf_181_71 N X rk x2 y g1))) else none)
theorem cr_181_61 {X : Nat → Option zz_C} {s : mS} {N : Nat} {rk : Nat → List Value → cS → kO} {D : Nat} (hrk : cK1 X s D rk) (hB : 162 ≤ D) {d : Nat} (hd : D + 1 ≤ d) {Q : zz_O → zz_H → Prop} {x1 : Int32} {x2 : Int32} {h : zz_H} {t t' : cS} {o : kY} (hR : kR h t s) (hf : cf_181_61 N X rk x1 x2 t = some (t', o)) (k : (∀ h', kR h' t' s → kE o Q h')) : zz_J zp_P zt_tf zt_fd X d zm_181 61 [(0, .ref 2), (1, .int x1), (2, .int x2)] [] h Q := by
  unfold cf_181_61 at hf
  obtain ⟨w0, e0, hf⟩ := co_b_ok hf
  obtain ⟨e1, hf⟩ := ko_if hf
  obtain ⟨d', rfl⟩ : ∃ d', d = d' + 1 := ⟨d - 1, by omega⟩
  refine cb_181_61 hR e0 e1 (fun {h} hR => ?_)
  rcases ko_call_ok hf with ⟨g1, v1, er, hf⟩ | ⟨g1, er, hq⟩
  · obtain ⟨y, hv, hf2⟩ := co_i_ok hf
    clear hf
    have hf := hf2
    clear hf2
    subst hv
    refine cr_209 (by omega) hR er (fun h hR => ?_)
    exact cr_181_71 hrk hB hd hR hf k
  · refine cr_209 (by omega) hR er (fun h hR => ?_)
    exact ko_thrown hq hR k
def cf_181_54 (N : Nat) (X : Nat → Option zz_C) (rk : Nat → List Value → cS → kO) (x1 : Int32) (x2 : Int32) (t : cS) : kO := ko_call 10 (cf_46 N X  t) (fun g1 v1 => co_v v1 (cf_181_61 N X rk x1 x2 g1))
theorem cr_181_54 {X : Nat → Option zz_C} {s : mS} {N : Nat} {rk : Nat → List Value → cS → kO} {D : Nat} (hrk : cK1 X s D rk) (hB : 162 ≤ D) {d : Nat} (hd : D + 1 ≤ d) {Q : zz_O → zz_H → Prop} {x1 : Int32} {x2 : Int32} {h : zz_H} {t t' : cS} {o : kY} (hR : kR h t s) (hf : cf_181_54 N X rk x1 x2 t = some (t', o)) (k : (∀ h', kR h' t' s → kE o Q h')) : zz_J zp_P zt_tf zt_fd X d zm_181 54 [(0, .ref 2), (1, .int x1), (2, .int x2)] [] h Q := by
  unfold cf_181_54 at hf
  obtain ⟨d', rfl⟩ : ∃ d', d = d' + 1 := ⟨d - 1, by omega⟩
  refine cb_181_54 hR  (fun {h} hR => ?_)
  rcases ko_call_ok hf with ⟨g1, v1, er, hf⟩ | ⟨g1, er, hq⟩
  · obtain ⟨hv, hf2⟩ := co_v_ok hf
    clear hf
    have hf := hf2
    clear hf2
    subst hv
    refine cr_46 (by omega) hR er (fun h hR => ?_)
    exact cr_181_61 hrk hB hd hR hf k
  · refine cr_46 (by omega) hR er (fun h hR => ?_)
    exact ko_thrown hq hR k
def cf_181_32 (N : Nat) (X : Nat → Option zz_C) (rk : Nat → List Value → cS → kO) (x1 : Int32) (x2 : Int32) (y0 : Nat) (t : cS) : kO := if (zz_out < y0 ∧ y0 ≤ zz_out + 41) ∧ zz_out < (zz_out + 3) ∧ (zz_out + 3) ≤ zz_out + 41 then (if zz_ac .eq y0 (zz_out + 3) = true then cf_181_54 N X rk x1 x2 t else cf_181_38 N X rk x2 t) else none
theorem cr_181_32 {X : Nat → Option zz_C} {s : mS} {N : Nat} {rk : Nat → List Value → cS → kO} {D : Nat} (hrk : cK1 X s D rk) (hB : 162 ≤ D) {d : Nat} (hd : D + 1 ≤ d) {Q : zz_O → zz_H → Prop} {x1 : Int32} {x2 : Int32} {y0 : Nat} {h : zz_H} {t t' : cS} {o : kY} (hR : kR h t s) (hf : cf_181_32 N X rk x1 x2 y0 t = some (t', o)) (k : (∀ h', kR h' t' s → kE o Q h')) : zz_J zp_P zt_tf zt_fd X d zm_181 32 [(0, .ref 2), (1, .int x1), (2, .int x2)] [.ref y0] h Q := by
  unfold cf_181_32 at hf
  obtain ⟨e0, hf⟩ := ko_if hf
  refine cb_181_32 hR e0 (fun c {h} hR => ?_) (fun c {h} hR => ?_)
  · rw [if_pos c] at hf
    exact cr_181_54 hrk hB hd hR hf k
  · rw [if_neg c] at hf
    exact cr_181_38 hrk hB hd hR hf k
def cf_181_28 (N : Nat) (X : Nat → Option zz_C) (rk : Nat → List Value → cS → kO) (x1 : Int32) (x2 : Int32) (t : cS) : kO := ko_call 5 (cf_199 N X  t) (fun g1 v1 => co_r v1 (fun y => cf_181_32 N X rk x1 x2 y g1))
theorem cr_181_28 {X : Nat → Option zz_C} {s : mS} {N : Nat} {rk : Nat → List Value → cS → kO} {D : Nat} (hrk : cK1 X s D rk) (hB : 162 ≤ D) {d : Nat} (hd : D + 1 ≤ d) {Q : zz_O → zz_H → Prop} {x1 : Int32} {x2 : Int32} {h : zz_H} {t t' : cS} {o : kY} (hR : kR h t s) (hf : cf_181_28 N X rk x1 x2 t = some (t', o)) (k : (∀ h', kR h' t' s → kE o Q h')) : zz_J zp_P zt_tf zt_fd X d zm_181 28 [(0, .ref 2), (1, .int x1), (2, .int x2)] [] h Q := by
  unfold cf_181_28 at hf
  obtain ⟨d', rfl⟩ : ∃ d', d = d' + 1 := ⟨d - 1, by omega⟩
  refine cb_181_28 hR  (fun {h} hR => ?_)
  rcases ko_call_ok hf with ⟨g1, v1, er, hf⟩ | ⟨g1, er, hq⟩
  · obtain ⟨y, hv, hf2⟩ := co_r_ok hf
    clear hf
    have hf := hf2
    clear hf2
    subst hv
    refine cr_199 (by omega) hR er (fun h hR => ?_)
    exact cr_181_32 hrk hB hd hR hf k
  · refine cr_199 (by omega) hR er (fun h hR => ?_)
    exact ko_thrown hq hR k
def cf_181_24 (N : Nat) (X : Nat → Option zz_C) (rk : Nat → List Value → cS → kO) (x1 : Int32) (x2 : Int32) (y0 : Int32) (t : cS) : kO := if ¬ y0 = 4 then cf_181_38 N X rk x2 t else cf_181_28 N X rk x1 x2 t
theorem cr_181_24 {X : Nat → Option zz_C} {s : mS} {N : Nat} {rk : Nat → List Value → cS → kO} {D : Nat} (hrk : cK1 X s D rk) (hB : 162 ≤ D) {d : Nat} (hd : D + 1 ≤ d) {Q : zz_O → zz_H → Prop} {x1 : Int32} {x2 : Int32} {y0 : Int32} {h : zz_H} {t t' : cS} {o : kY} (hR : kR h t s) (hf : cf_181_24 N X rk x1 x2 y0 t = some (t', o)) (k : (∀ h', kR h' t' s → kE o Q h')) : zz_J zp_P zt_tf zt_fd X d zm_181 24 [(0, .ref 2), (1, .int x1), (2, .int x2)] [.int y0] h Q := by
  unfold cf_181_24 at hf
  refine cb_181_24 hR  (fun c {h} hR => ?_) (fun c {h} hR => ?_)
  · rw [if_pos c] at hf
    exact cr_181_38 hrk hB hd hR hf k
  · rw [if_neg c] at hf
    exact cr_181_28 hrk hB hd hR hf k
def cf_181_17 (N : Nat) (X : Nat → Option zz_C) (rk : Nat → List Value → cS → kO) (x1 : Int32) (x2 : Int32) (t : cS) : kO := ko_call 10 (cf_42 N X  t) (fun g1 v1 => co_i v1 (fun y => cf_181_24 N X rk x1 x2 y g1))
theorem cr_181_17 {X : Nat → Option zz_C} {s : mS} {N : Nat} {rk : Nat → List Value → cS → kO} {D : Nat} (hrk : cK1 X s D rk) (hB : 162 ≤ D) {d : Nat} (hd : D + 1 ≤ d) {Q : zz_O → zz_H → Prop} {x1 : Int32} {x2 : Int32} {h : zz_H} {t t' : cS} {o : kY} (hR : kR h t s) (hf : cf_181_17 N X rk x1 x2 t = some (t', o)) (k : (∀ h', kR h' t' s → kE o Q h')) : zz_J zp_P zt_tf zt_fd X d zm_181 17 [(0, .ref 2), (1, .int x1), (2, .int x2)] [] h Q := by
  unfold cf_181_17 at hf
  obtain ⟨d', rfl⟩ : ∃ d', d = d' + 1 := ⟨d - 1, by omega⟩
  refine cb_181_17 hR  (fun {h} hR => ?_)
  rcases ko_call_ok hf with ⟨g1, v1, er, hf⟩ | ⟨g1, er, hq⟩
  · obtain ⟨y, hv, hf2⟩ := co_i_ok hf
    clear hf
    have hf := hf2
    clear hf2
    subst hv
    refine cr_42 (by omega) hR er (fun h hR => ?_)
    exact cr_181_24 hrk hB hd hR hf k
  · refine cr_42 (by omega) hR er (fun h hR => ?_)
    exact ko_thrown hq hR k
def cf_181_12 (N : Nat) (X : Nat → Option zz_C) (rk : Nat → List Value → cS → kO) (x1 : Int32) (y0 : Int32) (t : cS) : kO := ko_call 5 (rk 176 [] t) (fun g1 v1 => co_v v1 (cf_181_17 N X rk x1 y0 g1))
theorem cr_181_12 {X : Nat → Option zz_C} {s : mS} {N : Nat} {rk : Nat → List Value → cS → kO} {D : Nat} (hrk : cK1 X s D rk) (hB : 162 ≤ D) {d : Nat} (hd : D + 1 ≤ d) {Q : zz_O → zz_H → Prop} {x1 : Int32} {y0 : Int32} {h : zz_H} {t t' : cS} {o : kY} (hR : kR h t s) (hf : cf_181_12 N X rk x1 y0 t = some (t', o)) (k : (∀ h', kR h' t' s → kE o Q h')) : zz_J zp_P zt_tf zt_fd X d zm_181 12 [(0, .ref 2), (1, .int x1)] [.int y0] h Q := by
  unfold cf_181_12 at hf
  obtain ⟨d', rfl⟩ : ∃ d', d = d' + 1 := ⟨d - 1, by omega⟩
  refine cb_181_12 hR  (fun {h} hR => ?_)
  rcases ko_call_ok hf with ⟨g1, v1, er, hf⟩ | ⟨g1, er, hq⟩
  · obtain ⟨hv, hf2⟩ := co_v_ok hf
    clear hf
    have hf := hf2
    clear hf2
    subst hv
    refine hrk.1 (by omega) hR er (fun h hR => ?_)
    exact cr_181_17 hrk hB hd hR hf k
  · refine hrk.1 (by omega) hR er (fun h hR => ?_)
    exact ko_thrown hq hR k
def cf_181_7 (N : Nat) (X : Nat → Option zz_C) (rk : Nat → List Value → cS → kO) (x1 : Int32) (t : cS) : kO := ko_call 5 (cf_183 N X x1 t) (fun g1 v1 => co_i v1 (fun y => cf_181_12 N X rk x1 y g1))
theorem cr_181_7 {X : Nat → Option zz_C} {s : mS} {N : Nat} {rk : Nat → List Value → cS → kO} {D : Nat} (hrk : cK1 X s D rk) (hB : 162 ≤ D) {d : Nat} (hd : D + 1 ≤ d) {Q : zz_O → zz_H → Prop} {x1 : Int32} {h : zz_H} {t t' : cS} {o : kY} (hR : kR h t s) (hf : cf_181_7 N X rk x1 t = some (t', o)) (k : (∀ h', kR h' t' s → kE o Q h')) : zz_J zp_P zt_tf zt_fd X d zm_181 7 [(0, .ref 2), (1, .int x1)] [] h Q := by
  unfold cf_181_7 at hf
  obtain ⟨d', rfl⟩ : ∃ d', d = d' + 1 := ⟨d - 1, by omega⟩
  refine cb_181_7 hR  (fun {h} hR => ?_)
  rcases ko_call_ok hf with ⟨g1, v1, er, hf⟩ | ⟨g1, er, hq⟩
  · obtain ⟨y, hv, hf2⟩ := co_i_ok hf
    clear hf
    have hf := hf2
    clear hf2
    subst hv
    refine cr_183 (by omega) hR er (fun h hR => ?_)
    exact cr_181_12 hrk hB hd hR hf k
  · refine cr_183 (by omega) hR er (fun h hR => ?_)
    exact ko_thrown hq hR k
def cf_181_0 (N : Nat) (X : Nat → Option zz_C) (rk : Nat → List Value → cS → kO) (x1 : Int32) (t : cS) : kO := ko_call 10 (cf_46 N X  t) (fun g1 v1 => co_v v1 (cf_181_7 N X rk x1 g1))
theorem cr_181_0 {X : Nat → Option zz_C} {s : mS} {N : Nat} {rk : Nat → List Value → cS → kO} {D : Nat} (hrk : cK1 X s D rk) (hB : 162 ≤ D) {d : Nat} (hd : D + 1 ≤ d) {Q : zz_O → zz_H → Prop} {x1 : Int32} {h : zz_H} {t t' : cS} {o : kY} (hR : kR h t s) (hf : cf_181_0 N X rk x1 t = some (t', o)) (k : (∀ h', kR h' t' s → kE o Q h')) : zz_J zp_P zt_tf zt_fd X d zm_181 0 [(0, .ref 2), (1, .int x1)] [] h Q := by
  unfold cf_181_0 at hf
  obtain ⟨d', rfl⟩ : ∃ d', d = d' + 1 := ⟨d - 1, by omega⟩
  refine cb_181_0 hR  (fun {h} hR => ?_)
  rcases ko_call_ok hf with ⟨g1, v1, er, hf⟩ | ⟨g1, er, hq⟩
  · obtain ⟨hv, hf2⟩ := co_v_ok hf
    clear hf
    have hf := hf2
    clear hf2
    subst hv
    refine cr_46 (by omega) hR er (fun h hR => ?_)
    exact cr_181_7 hrk hB hd hR hf k
  · refine cr_46 (by omega) hR er (fun h hR => ?_)
    exact ko_thrown hq hR k
/-- ifStatement -/
def cf_181 (N : Nat) (X : Nat → Option zz_C) (rk : Nat → List Value → cS → kO) (x1 : Int32) (t : cS) : kO := cf_181_0 N X rk x1 t
theorem cr_181 {X : Nat → Option zz_C} {s : mS} {N : Nat} {rk : Nat → List Value → cS → kO} {D : Nat} (hrk : cK1 X s D rk) (hB : 162 ≤ D) {d : Nat} (hd : D + 1 ≤ d) {Q : zz_O → zz_H → Prop} {x1 : Int32} {h : zz_H} {t t' : cS} {o : kY} (hR : kR h t s) (hf : cf_181 N X rk x1 t = some (t', o)) (k : ∀ h', kR h' t' s → kE o Q h') : zz_J zp_P zt_tf zt_fd X d zm_181 0 [(0, .ref 2), (1, .int x1)] [] h Q := by
  unfold cf_181 at hf
  exact zz_J.weak (cr_181_0 hrk hB hd hR hf k) rfl ⟨rfl, rfl, trivial⟩
/-! yX5_whileStatement -/
theorem cb_182_0 {X : Nat → Option zz_C} {h : zz_H} {t : cS} {s : mS} {d : Nat} {Q : zz_O → zz_H → Prop} {x1 : Int32} (hR : kR h t s) (k : ∀ {h : zz_H}, kR h t s → zz_J zp_P zt_tf zt_fd X d zm_46 0 [(0, .ref 3)] [] h (zz_after 10 Q (fun v h' => zz_J zp_P zt_tf zt_fd X (d + 1) zm_182 7 [(0, .ref 2), (1, .int x1)] (v.toList ++ []) h' Q))) : zz_J zp_P zt_tf zt_fd X (d + 1) zm_182 0 [(0, .ref 2), (1, .int x1)] [] h Q := by
  refine zz_J.n 1 rfl rfl rfl ?_
  refine zz_J.g 4 rfl (hR.gv (v := .ref 3) ko_2 (by decide) rfl) rfl ?_
  refine zz_J.cv 7 (as := []) rfl rfl (hR.clO ko_3 (by decide) (by decide)) (by decide) (Nat.le_of_ble_eq_true rfl) (Nat.le_of_ble_eq_true rfl) rfl (Nat.le_of_ble_eq_true rfl) rfl ?_
  refine zz_J.mono (k hR) ?_
  intro o h' hE
  cases o with
  | inl v => exact zz_J.weak hE rfl ⟨rfl, rfl, trivial⟩
  | inr q => exact hE
theorem cb_182_7 {X : Nat → Option zz_C} {h : zz_H} {t : cS} {s : mS} {d : Nat} {Q : zz_O → zz_H → Prop} {x1 : Int32} (hR : kR h t s) {w0 : Nat} (e0 : (kP t 2 1) = some w0) (e1 : w0 = 12 ∨ w0 = 21) (k : ∀ {h : zz_H}, kR h t s → zz_J zp_P zt_tf zt_fd X d zm_209 0 [(0, .ref w0), (1, .int 26), (2, .int 0), (3, .int x1)] [] h (zz_after 6 Q (fun v h' => zz_J zp_P zt_tf zt_fd X (d + 1) zm_182 18 [(0, .ref 2), (1, .int x1)] (v.toList ++ []) h' Q))) : zz_J zp_P zt_tf zt_fd X (d + 1) zm_182 7 [(0, .ref 2), (1, .int x1)] [] h Q := by
  refine zz_J.n 8 rfl rfl rfl ?_
  refine zz_J.g 11 rfl (hR.gv (v := .ref w0) ko_2 (by decide) ((congrArg (fun q => some (zz_rv q)) e0).trans rfl)) rfl ?_
  refine zz_J.c 13 (.int 26) rfl rfl rfl rfl ?_
  refine zz_J.c 14 (.int 0) rfl rfl rfl rfl ?_
  refine zz_J.n 15 rfl rfl rfl ?_
  refine zz_J.cv 18 (as := []) rfl rfl (hR.clO (ko_P e1) (by decide) (by decide)) (by decide) (Nat.le_of_ble_eq_true rfl) (Nat.le_of_ble_eq_true rfl) rfl (Nat.le_of_ble_eq_true rfl) rfl ?_
  refine zz_J.mono (k hR) ?_
  intro o h' hE
  cases o with
  | inl v => exact zz_J.weak hE rfl ⟨rfl, rfl, trivial⟩
  | inr q => exact hE
theorem cb_182_18 {X : Nat → Option zz_C} {h : zz_H} {t : cS} {s : mS} {d : Nat} {Q : zz_O → zz_H → Prop} {x1 : Int32} {y0 : Int32} (hR : kR h t s) (k : ∀ {h : zz_H}, kR h t s → zz_J zp_P zt_tf zt_fd X d zm_183 0 [(0, .ref 2), (1, .int x1)] [] h (zz_after 5 Q (fun v h' => zz_J zp_P zt_tf zt_fd X (d + 1) zm_182 24 [(0, .ref 2), (1, .int x1), (2, .int y0)] (v.toList ++ []) h' Q))) : zz_J zp_P zt_tf zt_fd X (d + 1) zm_182 18 [(0, .ref 2), (1, .int x1)] [.int y0] h Q := by
  refine zz_J.n 19 rfl rfl rfl ?_
  refine zz_J.n 20 rfl rfl rfl ?_
  refine zz_J.n 21 rfl rfl rfl ?_
  refine zz_J.cv 24 (as := []) rfl rfl (hR.clO ko_2 (by decide) (by decide)) (by decide) (Nat.le_of_ble_eq_true rfl) (Nat.le_of_ble_eq_true rfl) rfl (Nat.le_of_ble_eq_true rfl) rfl ?_
  refine zz_J.mono (k hR) ?_
  intro o h' hE
  cases o with
  | inl v => exact zz_J.weak hE rfl ⟨rfl, rfl, rfl, trivial⟩
  | inr q => exact hE
theorem cb_182_24 {X : Nat → Option zz_C} {h : zz_H} {t : cS} {s : mS} {d : Nat} {Q : zz_O → zz_H → Prop} {x1 : Int32} {x2 : Int32} {y0 : Int32} (hR : kR h t s) (k : ∀ {h : zz_H}, kR h t s → zz_J zp_P zt_tf zt_fd X d zm_176 0 [(0, .ref 2)] [] h (zz_after 5 Q (fun v h' => zz_J zp_P zt_tf zt_fd X (d + 1) zm_182 29 [(0, .ref 2), (1, .int x1), (2, .int x2), (3, .int y0)] (v.toList ++ []) h' Q))) : zz_J zp_P zt_tf zt_fd X (d + 1) zm_182 24 [(0, .ref 2), (1, .int x1), (2, .int x2)] [.int y0] h Q := by
  refine zz_J.n 25 rfl rfl rfl ?_
  refine zz_J.n 26 rfl rfl rfl ?_
  refine zz_J.cv 29 (as := []) rfl rfl (hR.clO ko_2 (by decide) (by decide)) (by decide) (Nat.le_of_ble_eq_true rfl) (Nat.le_of_ble_eq_true rfl) rfl (Nat.le_of_ble_eq_true rfl) rfl ?_
  refine zz_J.mono (k hR) ?_
  intro o h' hE
  cases o with
  | inl v => exact zz_J.weak hE rfl ⟨rfl, rfl, rfl, rfl, trivial⟩
  | inr q => exact hE
theorem cb_182_29 {X : Nat → Option zz_C} {h : zz_H} {t : cS} {s : mS} {d : Nat} {Q : zz_O → zz_H → Prop} {x1 : Int32} {x2 : Int32} {x3 : Int32} (hR : kR h t s) {w0 : Nat} (e0 : (kP t 2 1) = some w0) (e1 : w0 = 12 ∨ w0 = 21) (k : ∀ {h : zz_H}, kR h t s → zz_J zp_P zt_tf zt_fd X d zm_209 0 [(0, .ref w0), (1, .int 4), (2, .int x2), (3, .int x1)] [] h (zz_after 6 Q (fun v h' => zz_J zp_P zt_tf zt_fd X (d + 1) zm_182 39 [(0, .ref 2), (3, .int x3)] (v.toList ++ []) h' Q))) : zz_J zp_P zt_tf zt_fd X (d + 1) zm_182 29 [(0, .ref 2), (1, .int x1), (2, .int x2), (3, .int x3)] [] h Q := by
  refine zz_J.n 30 rfl rfl rfl ?_
  refine zz_J.g 33 rfl (hR.gv (v := .ref w0) ko_2 (by decide) ((congrArg (fun q => some (zz_rv q)) e0).trans rfl)) rfl ?_
  refine zz_J.c 34 (.int 4) rfl rfl rfl rfl ?_
  refine zz_J.n 35 rfl rfl rfl ?_
  refine zz_J.n 36 rfl rfl rfl ?_
  refine zz_J.cv 39 (as := []) rfl rfl (hR.clO (ko_P e1) (by decide) (by decide)) (by decide) (Nat.le_of_ble_eq_true rfl) (Nat.le_of_ble_eq_true rfl) rfl (Nat.le_of_ble_eq_true rfl) rfl ?_
  refine zz_J.mono (k hR) ?_
  intro o h' hE
  cases o with
  | inl v => exact zz_J.weak hE rfl ⟨rfl, rfl, trivial⟩
  | inr q => exact hE
theorem cb_182_39 {X : Nat → Option zz_C} {h : zz_H} {t : cS} {s : mS} {d : Nat} {Q : zz_O → zz_H → Prop} {x3 : Int32} {y0 : Int32} (hR : kR h t s) {w0 : Nat} (e0 : (kP t 2 1) = some w0) {w1 : Nat} (e1 : (kP t 2 1) = some w1) (e2 : w1 = 12 ∨ w1 = 21) (k : ∀ {h : zz_H}, kR h t s → zz_J zp_P zt_tf zt_fd X d zm_203 0 [(0, .ref w1)] [] h (zz_after 6 Q (fun v h' => zz_J zp_P zt_tf zt_fd X (d + 1) zm_182 52 [] (v.toList ++ [.int x3, .ref w0]) h' Q))) : zz_J zp_P zt_tf zt_fd X (d + 1) zm_182 39 [(0, .ref 2), (3, .int x3)] [.int y0] h Q := by
  refine zz_J.n 40 rfl rfl rfl ?_
  refine zz_J.n 41 rfl rfl rfl ?_
  refine zz_J.g 44 rfl (hR.gv (v := .ref w0) ko_2 (by decide) ((congrArg (fun q => some (zz_rv q)) e0).trans rfl)) rfl ?_
  refine zz_J.n 45 rfl rfl rfl ?_
  refine zz_J.n 46 rfl rfl rfl ?_
  refine zz_J.g 49 rfl (hR.gv (v := .ref w1) ko_2 (by decide) ((congrArg (fun q => some (zz_rv q)) e1).trans rfl)) rfl ?_
  refine zz_J.cv 52 (as := [.int x3, .ref w0]) rfl rfl (hR.clO (ko_P e2) (by decide) (by decide)) (by decide) (Nat.le_of_ble_eq_true rfl) (Nat.le_of_ble_eq_true rfl) rfl (Nat.le_of_ble_eq_true rfl) rfl ?_
  refine zz_J.mono (k hR) ?_
  intro o h' hE
  cases o with
  | inl v => exact zz_J.weak hE rfl trivial
  | inr q => exact hE
theorem cb_182_52 {X : Nat → Option zz_C} {h : zz_H} {t : cS} {s : mS} {d : Nat} {Q : zz_O → zz_H → Prop} {y0 : Nat} {y1 : Int32} {y2 : Int32} (hR : kR h t s) (e0 : y0 = 12 ∨ y0 = 21) (k : ∀ {h : zz_H}, kR h t s → zz_J zp_P zt_tf zt_fd X d zm_210 0 [(0, .ref y0), (1, .int y1), (2, .int y2)] [] h (zz_after 6 Q (fun v h' => zz_J zp_P zt_tf zt_fd X (d + 1) zm_182 55 [] (v.toList ++ []) h' Q))) : zz_J zp_P zt_tf zt_fd X (d + 1) zm_182 52 [] [.int y2, .int y1, .ref y0] h Q := by
  refine zz_J.cv 55 (as := []) rfl rfl (hR.clO (ko_P e0) (by decide) (by decide)) (by decide) (Nat.le_of_ble_eq_true rfl) (Nat.le_of_ble_eq_true rfl) rfl (Nat.le_of_ble_eq_true rfl) rfl ?_
  refine zz_J.mono (k hR) ?_
  intro o h' hE
  cases o with
  | inl v => exact zz_J.weak hE rfl trivial
  | inr q => exact hE
theorem cb_182_55 {X : Nat → Option zz_C} {h : zz_H} {t : cS} {s : mS} {d : Nat} {Q : zz_O → zz_H → Prop}  (hR : kR h t s) (k : ∀ {h : zz_H}, kR h t s → Q (.inl none) h) : zz_J zp_P zt_tf zt_fd X d zm_182 55 [] [] h Q := by
  refine zz_J.ret rfl rfl rfl ?_
  exact k hR
def cf_182_55 (N : Nat) (X : Nat → Option zz_C) (rk : Nat → List Value → cS → kO)  (t : cS) : kO := some (t, .inl none)
theorem cr_182_55 {X : Nat → Option zz_C} {s : mS} {N : Nat} {rk : Nat → List Value → cS → kO} {D : Nat} (hrk : cK1 X s D rk) (hB : 162 ≤ D) {d : Nat} (hd : D + 1 ≤ d) {Q : zz_O → zz_H → Prop}  {h : zz_H} {t t' : cS} {o : kY} (hR : kR h t s) (hf : cf_182_55 N X rk  t = some (t', o)) (k : (∀ h', kR h' t' s → kE o Q h')) : zz_J zp_P zt_tf zt_fd X d zm_182 55 [] [] h Q := by
  unfold cf_182_55 at hf
  cases hf
  exact cb_182_55 hR  (fun {h} hR => k h hR)
def cf_182_52 (N : Nat) (X : Nat → Option zz_C) (rk : Nat → List Value → cS → kO) (y0 : Nat) (y1 : Int32) (y2 : Int32) (t : cS) : kO := if y0 = 12 ∨ y0 = 21 then (ko_call 6 (cf_210 N X y0 y1 y2 t) (fun g1 v1 => co_v v1 (cf_182_55 N X rk  g1))) else none
theorem cr_182_52 {X : Nat → Option zz_C} {s : mS} {N : Nat} {rk : Nat → List Value → cS → kO} {D : Nat} (hrk : cK1 X s D rk) (hB : 162 ≤ D) {d : Nat} (hd : D + 1 ≤ d) {Q : zz_O → zz_H → Prop} {y0 : Nat} {y1 : Int32} {y2 : Int32} {h : zz_H} {t t' : cS} {o : kY} (hR : kR h t s) (hf : cf_182_52 N X rk y0 y1 y2 t = some (t', o)) (k : (∀ h', kR h' t' s → kE o Q h')) : zz_J zp_P zt_tf zt_fd X d zm_182 52 [] [.int y2, .int y1, .ref y0] h Q := by
  unfold cf_182_52 at hf
  obtain ⟨e0, hf⟩ := ko_if hf
  obtain ⟨d', rfl⟩ : ∃ d', d = d' + 1 := ⟨d - 1, by omega⟩
  refine cb_182_52 hR e0 (fun {h} hR => ?_)
  rcases ko_call_ok hf with ⟨g1, v1, er, hf⟩ | ⟨g1, er, hq⟩
  · obtain ⟨hv, hf2⟩ := co_v_ok hf
    clear hf
    have hf := hf2
    clear hf2
    subst hv
    refine cr_210 (by omega) hR er (fun h hR => ?_)
    exact cr_182_55 hrk hB hd hR hf k
  · refine cr_210 (by omega) hR er (fun h hR => ?_)
    exact ko_thrown hq hR k
def cf_182_39 (N : Nat) (X : Nat → Option zz_C) (rk : Nat → List Value → cS → kO) (x3 : Int32) (y0 : Int32) (t : cS) : kO := co_b ((kP t 2 1)) (fun w0 => co_b ((kP t 2 1)) (fun w1 => if w1 = 12 ∨ w1 = 21 then (ko_call 6 (cf_203 N X w1 t) (fun g1 v1 => co_i v1 (fun y => cf_182_52 N X rk w0 x3 y g1))) else none))
theorem cr_182_39 {X : Nat → Option zz_C} {s : mS} {N : Nat} {rk : Nat → List Value → cS → kO} {D : Nat} (hrk : cK1 X s D rk) (hB : 162 ≤ D) {d : Nat} (hd : D + 1 ≤ d) {Q : zz_O → zz_H → Prop} {x3 : Int32} {y0 : Int32} {h : zz_H} {t t' : cS} {o : kY} (hR : kR h t s) (hf : cf_182_39 N X rk x3 y0 t = some (t', o)) (k : (∀ h', kR h' t' s → kE o Q h')) : zz_J zp_P zt_tf zt_fd X d zm_182 39 [(0, .ref 2), (3, .int x3)] [.int y0] h Q := by
  unfold cf_182_39 at hf
  obtain ⟨w0, e0, hf⟩ := co_b_ok hf
  obtain ⟨w1, e1, hf⟩ := co_b_ok hf
  obtain ⟨e2, hf⟩ := ko_if hf
  obtain ⟨d', rfl⟩ : ∃ d', d = d' + 1 := ⟨d - 1, by omega⟩
  refine cb_182_39 hR e0 e1 e2 (fun {h} hR => ?_)
  rcases ko_call_ok hf with ⟨g1, v1, er, hf⟩ | ⟨g1, er, hq⟩
  · obtain ⟨y, hv, hf2⟩ := co_i_ok hf
    clear hf
    have hf := hf2
    clear hf2
    subst hv
    refine cr_203 (by omega) hR er (fun h hR => ?_)
    exact cr_182_52 hrk hB hd hR hf k
  · refine cr_203 (by omega) hR er (fun h hR => ?_)
    exact ko_thrown hq hR k
def cf_182_29 (N : Nat) (X : Nat → Option zz_C) (rk : Nat → List Value → cS → kO) (x1 : Int32) (x2 : Int32) (x3 : Int32) (t : cS) : kO := co_b ((kP t 2 1)) (fun w0 => if w0 = 12 ∨ w0 = 21 then (ko_call 6 (cf_209 N X w0 4 x2 x1 t) (fun g1 v1 => co_i v1 (fun y => cf_182_39 N X rk x3 y g1))) else none)
theorem cr_182_29 {X : Nat → Option zz_C} {s : mS} {N : Nat} {rk : Nat → List Value → cS → kO} {D : Nat} (hrk : cK1 X s D rk) (hB : 162 ≤ D) {d : Nat} (hd : D + 1 ≤ d) {Q : zz_O → zz_H → Prop} {x1 : Int32} {x2 : Int32} {x3 : Int32} {h : zz_H} {t t' : cS} {o : kY} (hR : kR h t s) (hf : cf_182_29 N X rk x1 x2 x3 t = some (t', o)) (k : (∀ h', kR h' t' s → kE o Q h')) : zz_J zp_P zt_tf zt_fd X d zm_182 29 [(0, .ref 2), (1, .int x1), (2, .int x2), (3, .int x3)] [] h Q := by
  unfold cf_182_29 at hf
  obtain ⟨w0, e0, hf⟩ := co_b_ok hf
  obtain ⟨e1, hf⟩ := ko_if hf
  obtain ⟨d', rfl⟩ : ∃ d', d = d' + 1 := ⟨d - 1, by omega⟩
  refine cb_182_29 hR e0 e1 (fun {h} hR => ?_)
  rcases ko_call_ok hf with ⟨g1, v1, er, hf⟩ | ⟨g1, er, hq⟩
  · obtain ⟨y, hv, hf2⟩ := co_i_ok hf
    clear hf
    have hf := hf2
    clear hf2
    subst hv
    refine cr_209 (by omega) hR er (fun h hR => ?_)
    exact cr_182_39 hrk hB hd hR hf k
  · refine cr_209 (by omega) hR er (fun h hR => ?_)
    exact ko_thrown hq hR k
def cf_182_24 (N : Nat) (X : Nat → Option zz_C) (rk : Nat → List Value → cS → kO) (x1 : Int32) (x2 : Int32) (y0 : Int32) (t : cS) : kO := ko_call 5 (rk 176 [] t) (fun g1 v1 => co_v v1 (cf_182_29 N X rk x1 x2 y0 g1))
theorem cr_182_24 {X : Nat → Option zz_C} {s : mS} {N : Nat} {rk : Nat → List Value → cS → kO} {D : Nat} (hrk : cK1 X s D rk) (hB : 162 ≤ D) {d : Nat} (hd : D + 1 ≤ d) {Q : zz_O → zz_H → Prop} {x1 : Int32} {x2 : Int32} {y0 : Int32} {h : zz_H} {t t' : cS} {o : kY} (hR : kR h t s) (hf : cf_182_24 N X rk x1 x2 y0 t = some (t', o)) (k : (∀ h', kR h' t' s → kE o Q h')) : zz_J zp_P zt_tf zt_fd X d zm_182 24 [(0, .ref 2), (1, .int x1), (2, .int x2)] [.int y0] h Q := by
  unfold cf_182_24 at hf
  obtain ⟨d', rfl⟩ : ∃ d', d = d' + 1 := ⟨d - 1, by omega⟩
  refine cb_182_24 hR  (fun {h} hR => ?_)
  rcases ko_call_ok hf with ⟨g1, v1, er, hf⟩ | ⟨g1, er, hq⟩
  · obtain ⟨hv, hf2⟩ := co_v_ok hf
    clear hf
    have hf := hf2
    clear hf2
    subst hv
    refine hrk.1 (by omega) hR er (fun h hR => ?_)
    exact cr_182_29 hrk hB hd hR hf k
  · refine hrk.1 (by omega) hR er (fun h hR => ?_)
    exact ko_thrown hq hR k
def cf_182_18 (N : Nat) (X : Nat → Option zz_C) (rk : Nat → List Value → cS → kO) (x1 : Int32) (y0 : Int32) (t : cS) : kO := ko_call 5 (cf_183 N X x1 t) (fun g1 v1 => co_i v1 (fun y => cf_182_24 N X rk x1 y0 y g1))
theorem cr_182_18 {X : Nat → Option zz_C} {s : mS} {N : Nat} {rk : Nat → List Value → cS → kO} {D : Nat} (hrk : cK1 X s D rk) (hB : 162 ≤ D) {d : Nat} (hd : D + 1 ≤ d) {Q : zz_O → zz_H → Prop} {x1 : Int32} {y0 : Int32} {h : zz_H} {t t' : cS} {o : kY} (hR : kR h t s) (hf : cf_182_18 N X rk x1 y0 t = some (t', o)) (k : (∀ h', kR h' t' s → kE o Q h')) : zz_J zp_P zt_tf zt_fd X d zm_182 18 [(0, .ref 2), (1, .int x1)] [.int y0] h Q := by
  unfold cf_182_18 at hf
  obtain ⟨d', rfl⟩ : ∃ d', d = d' + 1 := ⟨d - 1, by omega⟩
  refine cb_182_18 hR  (fun {h} hR => ?_)
  rcases ko_call_ok hf with ⟨g1, v1, er, hf⟩ | ⟨g1, er, hq⟩
  · obtain ⟨y, hv, hf2⟩ := co_i_ok hf
    clear hf
    have hf := hf2
    clear hf2
    subst hv
    refine cr_183 (by omega) hR er (fun h hR => ?_)
    exact cr_182_24 hrk hB hd hR hf k
  · refine cr_183 (by omega) hR er (fun h hR => ?_)
    exact ko_thrown hq hR k
def cf_182_7 (N : Nat) (X : Nat → Option zz_C) (rk : Nat → List Value → cS → kO) (x1 : Int32) (t : cS) : kO := co_b ((kP t 2 1)) (fun w0 => if w0 = 12 ∨ w0 = 21 then (ko_call 6 (cf_209 N X w0 26 0 x1 t) (fun g1 v1 => co_i v1 (fun y => cf_182_18 N X rk x1 y g1))) else none)
theorem cr_182_7 {X : Nat → Option zz_C} {s : mS} {N : Nat} {rk : Nat → List Value → cS → kO} {D : Nat} (hrk : cK1 X s D rk) (hB : 162 ≤ D) {d : Nat} (hd : D + 1 ≤ d) {Q : zz_O → zz_H → Prop} {x1 : Int32} {h : zz_H} {t t' : cS} {o : kY} (hR : kR h t s) (hf : cf_182_7 N X rk x1 t = some (t', o)) (k : (∀ h', kR h' t' s → kE o Q h')) : zz_J zp_P zt_tf zt_fd X d zm_182 7 [(0, .ref 2), (1, .int x1)] [] h Q := by
  unfold cf_182_7 at hf
  obtain ⟨w0, e0, hf⟩ := co_b_ok hf
  obtain ⟨e1, hf⟩ := ko_if hf
  obtain ⟨d', rfl⟩ : ∃ d', d = d' + 1 := ⟨d - 1, by omega⟩
  refine cb_182_7 hR e0 e1 (fun {h} hR => ?_)
  rcases ko_call_ok hf with ⟨g1, v1, er, hf⟩ | ⟨g1, er, hq⟩
  · obtain ⟨y, hv, hf2⟩ := co_i_ok hf
    clear hf
    have hf := hf2
    clear hf2
    subst hv
    refine cr_209 (by omega) hR er (fun h hR => ?_)
    exact cr_182_18 hrk hB hd hR hf k
  · refine cr_209 (by omega) hR er (fun h hR => ?_)
    exact ko_thrown hq hR k
def cf_182_0 (N : Nat) (X : Nat → Option zz_C) (rk : Nat → List Value → cS → kO) (x1 : Int32) (t : cS) : kO := ko_call 10 (cf_46 N X  t) (fun g1 v1 => co_v v1 (cf_182_7 N X rk x1 g1))
theorem cr_182_0 {X : Nat → Option zz_C} {s : mS} {N : Nat} {rk : Nat → List Value → cS → kO} {D : Nat} (hrk : cK1 X s D rk) (hB : 162 ≤ D) {d : Nat} (hd : D + 1 ≤ d) {Q : zz_O → zz_H → Prop} {x1 : Int32} {h : zz_H} {t t' : cS} {o : kY} (hR : kR h t s) (hf : cf_182_0 N X rk x1 t = some (t', o)) (k : (∀ h', kR h' t' s → kE o Q h')) : zz_J zp_P zt_tf zt_fd X d zm_182 0 [(0, .ref 2), (1, .int x1)] [] h Q := by
  unfold cf_182_0 at hf
  obtain ⟨d', rfl⟩ : ∃ d', d = d' + 1 := ⟨d - 1, by omega⟩
  refine cb_182_0 hR  (fun {h} hR => ?_)
  rcases ko_call_ok hf with ⟨g1, v1, er, hf⟩ | ⟨g1, er, hq⟩
  · obtain ⟨hv, hf2⟩ := co_v_ok hf
    clear hf
    have hf := hf2
    clear hf2
    subst hv
    refine cr_46 (by omega) hR er (fun h hR => ?_)
    exact cr_182_7 hrk hB hd hR hf k
  · refine cr_46 (by omega) hR er (fun h hR => ?_)
    exact ko_thrown hq hR k
/-- whileStatement -/
def cf_182 (N : Nat) (X : Nat → Option zz_C) (rk : Nat → List Value → cS → kO) (x1 : Int32) (t : cS) : kO := cf_182_0 N X rk x1 t
theorem cr_182 {X : Nat → Option zz_C} {s : mS} {N : Nat} {rk : Nat → List Value → cS → kO} {D : Nat} (hrk : cK1 X s D rk) (hB : 162 ≤ D) {d : Nat} (hd : D + 1 ≤ d) {Q : zz_O → zz_H → Prop} {x1 : Int32} {h : zz_H} {t t' : cS} {o : kY} (hR : kR h t s) (hf : cf_182 N X rk x1 t = some (t', o)) (k : ∀ h', kR h' t' s → kE o Q h') : zz_J zp_P zt_tf zt_fd X d zm_182 0 [(0, .ref 2), (1, .int x1)] [] h Q := by
  unfold cf_182 at hf
  exact zz_J.weak (cr_182_0 hrk hB hd hR hf k) rfl ⟨rfl, rfl, trivial⟩
/-! yX5_forStatement -/
theorem cb_184_0 {X : Nat → Option zz_C} {h : zz_H} {t : cS} {s : mS} {d : Nat} {Q : zz_O → zz_H → Prop} {x1 : Int32} (hR : kR h t s) (k : ∀ {h : zz_H}, kR h t s → zz_J zp_P zt_tf zt_fd X d zm_46 0 [(0, .ref 3)] [] h (zz_after 10 Q (fun v h' => zz_J zp_P zt_tf zt_fd X (d + 1) zm_184 7 [(0, .ref 2), (1, .int x1)] (v.toList ++ []) h' Q))) : zz_J zp_P zt_tf zt_fd X (d + 1) zm_184 0 [(0, .ref 2), (1, .int x1)] [] h Q := by
  refine zz_J.n 1 rfl rfl rfl ?_
  refine zz_J.g 4 rfl (hR.gv (v := .ref 3) ko_2 (by decide) rfl) rfl ?_
  refine zz_J.cv 7 (as := []) rfl rfl (hR.clO ko_3 (by decide) (by decide)) (by decide) (Nat.le_of_ble_eq_true rfl) (Nat.le_of_ble_eq_true rfl) rfl (Nat.le_of_ble_eq_true rfl) rfl ?_
  refine zz_J.mono (k hR) ?_
  intro o h' hE
  cases o with
  | inl v => exact zz_J.weak hE rfl ⟨rfl, rfl, trivial⟩
  | inr q => exact hE
theorem cb_184_7 {X : Nat → Option zz_C} {h : zz_H} {t : cS} {s : mS} {d : Nat} {Q : zz_O → zz_H → Prop} {x1 : Int32} (hR : kR h t s) (k : ∀ {h : zz_H}, kR h t s → zz_J zp_P zt_tf zt_fd X d zm_195 0 [(0, .ref 2)] [] h (zz_after 5 Q (fun v h' => zz_J zp_P zt_tf zt_fd X (d + 1) zm_184 11 [(0, .ref 2), (1, .int x1)] (v.toList ++ []) h' Q))) : zz_J zp_P zt_tf zt_fd X (d + 1) zm_184 7 [(0, .ref 2), (1, .int x1)] [] h Q := by
  refine zz_J.n 8 rfl rfl rfl ?_
  refine zz_J.cv 11 (as := []) rfl rfl (hR.clO ko_2 (by decide) (by decide)) (by decide) (Nat.le_of_ble_eq_true rfl) (Nat.le_of_ble_eq_true rfl) rfl (Nat.le_of_ble_eq_true rfl) rfl ?_
  refine zz_J.mono (k hR) ?_
  intro o h' hE
  cases o with
  | inl v => exact zz_J.weak hE rfl ⟨rfl, rfl, trivial⟩
  | inr q => exact hE
theorem cb_184_11 {X : Nat → Option zz_C} {h : zz_H} {t : cS} {s : mS} {d : Nat} {Q : zz_O → zz_H → Prop} {x1 : Int32} {y0 : Int32} (hR : kR h t s) (k : ∀ {h : zz_H}, kR h t s → zz_J zp_P zt_tf zt_fd X d zm_200 0 [(0, .ref 2), (1, .ref (zz_out + 6))] [] h (zz_after 5 Q (fun v h' => zz_J zp_P zt_tf zt_fd X (d + 1) zm_184 19 [(0, .ref 2), (1, .int x1), (2, .int y0)] (v.toList ++ []) h' Q))) : zz_J zp_P zt_tf zt_fd X (d + 1) zm_184 11 [(0, .ref 2), (1, .int x1)] [.int y0] h Q := by
  refine zz_J.n 12 rfl rfl rfl ?_
  refine zz_J.n 13 rfl rfl rfl ?_
  refine zz_J.c 16 (.ref (zz_out + 6)) rfl rfl rfl rfl ?_
  refine zz_J.cv 19 (as := []) rfl rfl (hR.clO ko_2 (by decide) (by decide)) (by decide) (Nat.le_of_ble_eq_true rfl) (Nat.le_of_ble_eq_true rfl) rfl (Nat.le_of_ble_eq_true rfl) rfl ?_
  refine zz_J.mono (k hR) ?_
  intro o h' hE
  cases o with
  | inl v => exact zz_J.weak hE rfl ⟨rfl, rfl, rfl, trivial⟩
  | inr q => exact hE
theorem cb_184_19 {X : Nat → Option zz_C} {h : zz_H} {t : cS} {s : mS} {d : Nat} {Q : zz_O → zz_H → Prop} {x1 : Int32} {x2 : Int32} (hR : kR h t s) (k : ∀ {h : zz_H}, kR h t s → zz_J zp_P zt_tf zt_fd X d zm_186 0 [(0, .ref 2), (1, .int 0)] [] h (zz_after 5 Q (fun v h' => zz_J zp_P zt_tf zt_fd X (d + 1) zm_184 24 [(0, .ref 2), (1, .int x1), (2, .int x2)] (v.toList ++ []) h' Q))) : zz_J zp_P zt_tf zt_fd X (d + 1) zm_184 19 [(0, .ref 2), (1, .int x1), (2, .int x2)] [] h Q := by
  refine zz_J.n 20 rfl rfl rfl ?_
  refine zz_J.c 21 (.int 0) rfl rfl rfl rfl ?_
  refine zz_J.cv 24 (as := []) rfl rfl (hR.clO ko_2 (by decide) (by decide)) (by decide) (Nat.le_of_ble_eq_true rfl) (Nat.le_of_ble_eq_true rfl) rfl (Nat.le_of_ble_eq_true rfl) rfl ?_
  refine zz_J.mono (k hR) ?_
  intro o h' hE
  cases o with
  | inl v => exact zz_J.weak hE rfl ⟨rfl, rfl, rfl, trivial⟩
  | inr q => exact hE
theorem cb_184_24 {X : Nat → Option zz_C} {h : zz_H} {t : cS} {s : mS} {d : Nat} {Q : zz_O → zz_H → Prop} {x1 : Int32} {x2 : Int32} (hR : kR h t s) {w0 : Nat} (e0 : (kP t 2 1) = some w0) (e1 : w0 = 12 ∨ w0 = 21) (k : ∀ {h : zz_H}, kR h t s → zz_J zp_P zt_tf zt_fd X d zm_209 0 [(0, .ref w0), (1, .int 6), (2, .int 0), (3, .int x1)] [] h (zz_after 6 Q (fun v h' => zz_J zp_P zt_tf zt_fd X (d + 1) zm_184 35 [(0, .ref 2), (1, .int x1), (2, .int x2)] (v.toList ++ []) h' Q))) : zz_J zp_P zt_tf zt_fd X (d + 1) zm_184 24 [(0, .ref 2), (1, .int x1), (2, .int x2)] [] h Q := by
  refine zz_J.n 25 rfl rfl rfl ?_
  refine zz_J.g 28 rfl (hR.gv (v := .ref w0) ko_2 (by decide) ((congrArg (fun q => some (zz_rv q)) e0).trans rfl)) rfl ?_
  refine zz_J.c 30 (.int 6) rfl rfl rfl rfl ?_
  refine zz_J.c 31 (.int 0) rfl rfl rfl rfl ?_
  refine zz_J.n 32 rfl rfl rfl ?_
  refine zz_J.cv 35 (as := []) rfl rfl (hR.clO (ko_P e1) (by decide) (by decide)) (by decide) (Nat.le_of_ble_eq_true rfl) (Nat.le_of_ble_eq_true rfl) rfl (Nat.le_of_ble_eq_true rfl) rfl ?_
  refine zz_J.mono (k hR) ?_
  intro o h' hE
  cases o with
  | inl v => exact zz_J.weak hE rfl ⟨rfl, rfl, rfl, trivial⟩
  | inr q => exact hE
theorem cb_184_35 {X : Nat → Option zz_C} {h : zz_H} {t : cS} {s : mS} {d : Nat} {Q : zz_O → zz_H → Prop} {x1 : Int32} {x2 : Int32} {y0 : Int32} (hR : kR h t s) {w0 : Nat} (e0 : (kP t 2 1) = some w0) (e1 : w0 = 12 ∨ w0 = 21) (k : ∀ {h : zz_H}, kR h t s → zz_J zp_P zt_tf zt_fd X d zm_209 0 [(0, .ref w0), (1, .int 27), (2, .int 0), (3, .int x1)] [] h (zz_after 6 Q (fun v h' => zz_J zp_P zt_tf zt_fd X (d + 1) zm_184 47 [(0, .ref 2), (1, .int x1), (2, .int x2)] (v.toList ++ []) h' Q))) : zz_J zp_P zt_tf zt_fd X (d + 1) zm_184 35 [(0, .ref 2), (1, .int x1), (2, .int x2)] [.int y0] h Q := by
  refine zz_J.n 36 rfl rfl rfl ?_
  refine zz_J.n 37 rfl rfl rfl ?_
  refine zz_J.g 40 rfl (hR.gv (v := .ref w0) ko_2 (by decide) ((congrArg (fun q => some (zz_rv q)) e0).trans rfl)) rfl ?_
  refine zz_J.c 42 (.int 27) rfl rfl rfl rfl ?_
  refine zz_J.c 43 (.int 0) rfl rfl rfl rfl ?_
  refine zz_J.n 44 rfl rfl rfl ?_
  refine zz_J.cv 47 (as := []) rfl rfl (hR.clO (ko_P e1) (by decide) (by decide)) (by decide) (Nat.le_of_ble_eq_true rfl) (Nat.le_of_ble_eq_true rfl) rfl (Nat.le_of_ble_eq_true rfl) rfl ?_
  refine zz_J.mono (k hR) ?_
  intro o h' hE
  cases o with
  | inl v => exact zz_J.weak hE rfl ⟨rfl, rfl, rfl, trivial⟩
  | inr q => exact hE
theorem cb_184_47 {X : Nat → Option zz_C} {h : zz_H} {t : cS} {s : mS} {d : Nat} {Q : zz_O → zz_H → Prop} {x1 : Int32} {x2 : Int32} {y0 : Int32} (hR : kR h t s) {w0 : Nat} (e0 : (kP t 2 1) = some w0) (e1 : w0 = 12 ∨ w0 = 21) (k : ∀ {h : zz_H}, kR h t s → zz_J zp_P zt_tf zt_fd X d zm_209 0 [(0, .ref w0), (1, .int 2), (2, .int x2), (3, .int x1)] [] h (zz_after 6 Q (fun v h' => zz_J zp_P zt_tf zt_fd X (d + 1) zm_184 58 [(0, .ref 2), (1, .int x1), (3, .int y0)] (v.toList ++ []) h' Q))) : zz_J zp_P zt_tf zt_fd X (d + 1) zm_184 47 [(0, .ref 2), (1, .int x1), (2, .int x2)] [.int y0] h Q := by
  refine zz_J.n 48 rfl rfl rfl ?_
  refine zz_J.n 49 rfl rfl rfl ?_
  refine zz_J.g 52 rfl (hR.gv (v := .ref w0) ko_2 (by decide) ((congrArg (fun q => some (zz_rv q)) e0).trans rfl)) rfl ?_
  refine zz_J.c 53 (.int 2) rfl rfl rfl rfl ?_
  refine zz_J.n 54 rfl rfl rfl ?_
  refine zz_J.n 55 rfl rfl rfl ?_
  refine zz_J.cv 58 (as := []) rfl rfl (hR.clO (ko_P e1) (by decide) (by decide)) (by decide) (Nat.le_of_ble_eq_true rfl) (Nat.le_of_ble_eq_true rfl) rfl (Nat.le_of_ble_eq_true rfl) rfl ?_
  refine zz_J.mono (k hR) ?_
  intro o h' hE
  cases o with
  | inl v => exact zz_J.weak hE rfl ⟨rfl, rfl, rfl, trivial⟩
  | inr q => exact hE
theorem cb_184_58 {X : Nat → Option zz_C} {h : zz_H} {t : cS} {s : mS} {d : Nat} {Q : zz_O → zz_H → Prop} {x1 : Int32} {x3 : Int32} {y0 : Int32} (hR : kR h t s) (k : ∀ {h : zz_H}, kR h t s → zz_J zp_P zt_tf zt_fd X d zm_176 0 [(0, .ref 2)] [] h (zz_after 5 Q (fun v h' => zz_J zp_P zt_tf zt_fd X (d + 1) zm_184 63 [(0, .ref 2), (1, .int x1), (3, .int x3)] (v.toList ++ []) h' Q))) : zz_J zp_P zt_tf zt_fd X (d + 1) zm_184 58 [(0, .ref 2), (1, .int x1), (3, .int x3)] [.int y0] h Q := by
  refine zz_J.n 59 rfl rfl rfl ?_
  refine zz_J.n 60 rfl rfl rfl ?_
  refine zz_J.cv 63 (as := []) rfl rfl (hR.clO ko_2 (by decide) (by decide)) (by decide) (Nat.le_of_ble_eq_true rfl) (Nat.le_of_ble_eq_true rfl) rfl (Nat.le_of_ble_eq_true rfl) rfl ?_
  refine zz_J.mono (k hR) ?_
  intro o h' hE
  cases o with
  | inl v => exact zz_J.weak hE rfl ⟨rfl, rfl, rfl, trivial⟩
  | inr q => exact hE
theorem cb_184_63 {X : Nat → Option zz_C} {h : zz_H} {t : cS} {s : mS} {d : Nat} {Q : zz_O → zz_H → Prop} {x1 : Int32} {x3 : Int32} (hR : kR h t s) {w0 : Nat} (e0 : (kP t 2 1) = some w0) (e1 : w0 = 12 ∨ w0 = 21) (k : ∀ {h : zz_H}, kR h t s → zz_J zp_P zt_tf zt_fd X d zm_209 0 [(0, .ref w0), (1, .int 4), (2, .int x3), (3, .int x1)] [] h (zz_after 6 Q (fun v h' => zz_J zp_P zt_tf zt_fd X (d + 1) zm_184 73 [(0, .ref 2), (3, .int x3)] (v.toList ++ []) h' Q))) : zz_J zp_P zt_tf zt_fd X (d + 1) zm_184 63 [(0, .ref 2), (1, .int x1), (3, .int x3)] [] h Q := by
  refine zz_J.n 64 rfl rfl rfl ?_
  refine zz_J.g 67 rfl (hR.gv (v := .ref w0) ko_2 (by decide) ((congrArg (fun q => some (zz_rv q)) e0).trans rfl)) rfl ?_
  refine zz_J.c 68 (.int 4) rfl rfl rfl rfl ?_
  refine zz_J.n 69 rfl rfl rfl ?_
  refine zz_J.n 70 rfl rfl rfl ?_
  refine zz_J.cv 73 (as := []) rfl rfl (hR.clO (ko_P e1) (by decide) (by decide)) (by decide) (Nat.le_of_ble_eq_true rfl) (Nat.le_of_ble_eq_true rfl) rfl (Nat.le_of_ble_eq_true rfl) rfl ?_
  refine zz_J.mono (k hR) ?_
  intro o h' hE
  cases o with
  | inl v => exact zz_J.weak hE rfl ⟨rfl, rfl, trivial⟩
  | inr q => exact hE
theorem cb_184_73 {X : Nat → Option zz_C} {h : zz_H} {t : cS} {s : mS} {d : Nat} {Q : zz_O → zz_H → Prop} {x3 : Int32} {y0 : Int32} (hR : kR h t s) {w0 : Nat} (e0 : (kP t 2 1) = some w0) {w1 : Nat} (e1 : (kP t 2 1) = some w1) (e2 : w1 = 12 ∨ w1 = 21) (k : ∀ {h : zz_H}, kR h t s → zz_J zp_P zt_tf zt_fd X d zm_203 0 [(0, .ref w1)] [] h (zz_after 6 Q (fun v h' => zz_J zp_P zt_tf zt_fd X (d + 1) zm_184 86 [] (v.toList ++ [.int x3, .ref w0]) h' Q))) : zz_J zp_P zt_tf zt_fd X (d + 1) zm_184 73 [(0, .ref 2), (3, .int x3)] [.int y0] h Q := by
  refine zz_J.n 74 rfl rfl rfl ?_
  refine zz_J.n 75 rfl rfl rfl ?_
  refine zz_J.g 78 rfl (hR.gv (v := .ref w0) ko_2 (by decide) ((congrArg (fun q => some (zz_rv q)) e0).trans rfl)) rfl ?_
  refine zz_J.n 79 rfl rfl rfl ?_
  refine zz_J.n 80 rfl rfl rfl ?_
  refine zz_J.g 83 rfl (hR.gv (v := .ref w1) ko_2 (by decide) ((congrArg (fun q => some (zz_rv q)) e1).trans rfl)) rfl ?_
  refine zz_J.cv 86 (as := [.int x3, .ref w0]) rfl rfl (hR.clO (ko_P e2) (by decide) (by decide)) (by decide) (Nat.le_of_ble_eq_true rfl) (Nat.le_of_ble_eq_true rfl) rfl (Nat.le_of_ble_eq_true rfl) rfl ?_
  refine zz_J.mono (k hR) ?_
  intro o h' hE
  cases o with
  | inl v => exact zz_J.weak hE rfl trivial
  | inr q => exact hE
theorem cb_184_86 {X : Nat → Option zz_C} {h : zz_H} {t : cS} {s : mS} {d : Nat} {Q : zz_O → zz_H → Prop} {y0 : Nat} {y1 : Int32} {y2 : Int32} (hR : kR h t s) (e0 : y0 = 12 ∨ y0 = 21) (k : ∀ {h : zz_H}, kR h t s → zz_J zp_P zt_tf zt_fd X d zm_210 0 [(0, .ref y0), (1, .int y1), (2, .int y2)] [] h (zz_after 6 Q (fun v h' => zz_J zp_P zt_tf zt_fd X (d + 1) zm_184 89 [] (v.toList ++ []) h' Q))) : zz_J zp_P zt_tf zt_fd X (d + 1) zm_184 86 [] [.int y2, .int y1, .ref y0] h Q := by
  refine zz_J.cv 89 (as := []) rfl rfl (hR.clO (ko_P e0) (by decide) (by decide)) (by decide) (Nat.le_of_ble_eq_true rfl) (Nat.le_of_ble_eq_true rfl) rfl (Nat.le_of_ble_eq_true rfl) rfl ?_
  refine zz_J.mono (k hR) ?_
  intro o h' hE
  cases o with
  | inl v => exact zz_J.weak hE rfl trivial
  | inr q => exact hE
theorem cb_184_89 {X : Nat → Option zz_C} {h : zz_H} {t : cS} {s : mS} {d : Nat} {Q : zz_O → zz_H → Prop}  (hR : kR h t s) (k : ∀ {h : zz_H}, kR h t s → Q (.inl none) h) : zz_J zp_P zt_tf zt_fd X d zm_184 89 [] [] h Q := by
  refine zz_J.ret rfl rfl rfl ?_
  exact k hR
def cf_184_89 (N : Nat) (X : Nat → Option zz_C) (rk : Nat → List Value → cS → kO)  (t : cS) : kO := some (t, .inl none)
theorem cr_184_89 {X : Nat → Option zz_C} {s : mS} {N : Nat} {rk : Nat → List Value → cS → kO} {D : Nat} (hrk : cK1 X s D rk) (hB : 162 ≤ D) {d : Nat} (hd : D + 1 ≤ d) {Q : zz_O → zz_H → Prop}  {h : zz_H} {t t' : cS} {o : kY} (hR : kR h t s) (hf : cf_184_89 N X rk  t = some (t', o)) (k : (∀ h', kR h' t' s → kE o Q h')) : zz_J zp_P zt_tf zt_fd X d zm_184 89 [] [] h Q := by
  unfold cf_184_89 at hf
  cases hf
  exact cb_184_89 hR  (fun {h} hR => k h hR)
def cf_184_86 (N : Nat) (X : Nat → Option zz_C) (rk : Nat → List Value → cS → kO) (y0 : Nat) (y1 : Int32) (y2 : Int32) (t : cS) : kO := if y0 = 12 ∨ y0 = 21 then (ko_call 6 (cf_210 N X y0 y1 y2 t) (fun g1 v1 => co_v v1 (cf_184_89 N X rk  g1))) else none
theorem cr_184_86 {X : Nat → Option zz_C} {s : mS} {N : Nat} {rk : Nat → List Value → cS → kO} {D : Nat} (hrk : cK1 X s D rk) (hB : 162 ≤ D) {d : Nat} (hd : D + 1 ≤ d) {Q : zz_O → zz_H → Prop} {y0 : Nat} {y1 : Int32} {y2 : Int32} {h : zz_H} {t t' : cS} {o : kY} (hR : kR h t s) (hf : cf_184_86 N X rk y0 y1 y2 t = some (t', o)) (k : (∀ h', kR h' t' s → kE o Q h')) : zz_J zp_P zt_tf zt_fd X d zm_184 86 [] [.int y2, .int y1, .ref y0] h Q := by
  unfold cf_184_86 at hf
  obtain ⟨e0, hf⟩ := ko_if hf
  obtain ⟨d', rfl⟩ : ∃ d', d = d' + 1 := ⟨d - 1, by omega⟩
  refine cb_184_86 hR e0 (fun {h} hR => ?_)
  rcases ko_call_ok hf with ⟨g1, v1, er, hf⟩ | ⟨g1, er, hq⟩
  · obtain ⟨hv, hf2⟩ := co_v_ok hf
    clear hf
    have hf := hf2
    clear hf2
    subst hv
    refine cr_210 (by omega) hR er (fun h hR => ?_)
    exact cr_184_89 hrk hB hd hR hf k
  · refine cr_210 (by omega) hR er (fun h hR => ?_)
    exact ko_thrown hq hR k
def cf_184_73 (N : Nat) (X : Nat → Option zz_C) (rk : Nat → List Value → cS → kO) (x3 : Int32) (y0 : Int32) (t : cS) : kO := co_b ((kP t 2 1)) (fun w0 => co_b ((kP t 2 1)) (fun w1 => if w1 = 12 ∨ w1 = 21 then (ko_call 6 (cf_203 N X w1 t) (fun g1 v1 => co_i v1 (fun y => cf_184_86 N X rk w0 x3 y g1))) else none))
theorem cr_184_73 {X : Nat → Option zz_C} {s : mS} {N : Nat} {rk : Nat → List Value → cS → kO} {D : Nat} (hrk : cK1 X s D rk) (hB : 162 ≤ D) {d : Nat} (hd : D + 1 ≤ d) {Q : zz_O → zz_H → Prop} {x3 : Int32} {y0 : Int32} {h : zz_H} {t t' : cS} {o : kY} (hR : kR h t s) (hf : cf_184_73 N X rk x3 y0 t = some (t', o)) (k : (∀ h', kR h' t' s → kE o Q h')) : zz_J zp_P zt_tf zt_fd X d zm_184 73 [(0, .ref 2), (3, .int x3)] [.int y0] h Q := by
  unfold cf_184_73 at hf
  obtain ⟨w0, e0, hf⟩ := co_b_ok hf
  obtain ⟨w1, e1, hf⟩ := co_b_ok hf
  obtain ⟨e2, hf⟩ := ko_if hf
  obtain ⟨d', rfl⟩ : ∃ d', d = d' + 1 := ⟨d - 1, by omega⟩
  refine cb_184_73 hR e0 e1 e2 (fun {h} hR => ?_)
  rcases ko_call_ok hf with ⟨g1, v1, er, hf⟩ | ⟨g1, er, hq⟩
  · obtain ⟨y, hv, hf2⟩ := co_i_ok hf
    clear hf
    have hf := hf2
    clear hf2
    subst hv
    refine cr_203 (by omega) hR er (fun h hR => ?_)
    exact cr_184_86 hrk hB hd hR hf k
  · refine cr_203 (by omega) hR er (fun h hR => ?_)
    exact ko_thrown hq hR k
def cf_184_63 (N : Nat) (X : Nat → Option zz_C) (rk : Nat → List Value → cS → kO) (x1 : Int32) (x3 : Int32) (t : cS) : kO := co_b ((kP t 2 1)) (fun w0 => if w0 = 12 ∨ w0 = 21 then (ko_call 6 (cf_209 N X w0 4 x3 x1 t) (fun g1 v1 => co_i v1 (fun y => cf_184_73 N X rk x3 y g1))) else none)
theorem cr_184_63 {X : Nat → Option zz_C} {s : mS} {N : Nat} {rk : Nat → List Value → cS → kO} {D : Nat} (hrk : cK1 X s D rk) (hB : 162 ≤ D) {d : Nat} (hd : D + 1 ≤ d) {Q : zz_O → zz_H → Prop} {x1 : Int32} {x3 : Int32} {h : zz_H} {t t' : cS} {o : kY} (hR : kR h t s) (hf : cf_184_63 N X rk x1 x3 t = some (t', o)) (k : (∀ h', kR h' t' s → kE o Q h')) : zz_J zp_P zt_tf zt_fd X d zm_184 63 [(0, .ref 2), (1, .int x1), (3, .int x3)] [] h Q := by
  unfold cf_184_63 at hf
  obtain ⟨w0, e0, hf⟩ := co_b_ok hf
  obtain ⟨e1, hf⟩ := ko_if hf
  obtain ⟨d', rfl⟩ : ∃ d', d = d' + 1 := ⟨d - 1, by omega⟩
  refine cb_184_63 hR e0 e1 (fun {h} hR => ?_)
  rcases ko_call_ok hf with ⟨g1, v1, er, hf⟩ | ⟨g1, er, hq⟩
  · obtain ⟨y, hv, hf2⟩ := co_i_ok hf
    clear hf
    have hf := hf2
    clear hf2
    subst hv
    refine cr_209 (by omega) hR er (fun h hR => ?_)
    exact cr_184_73 hrk hB hd hR hf k
  · refine cr_209 (by omega) hR er (fun h hR => ?_)
    exact ko_thrown hq hR k
def cf_184_58 (N : Nat) (X : Nat → Option zz_C) (rk : Nat → List Value → cS → kO) (x1 : Int32) (x3 : Int32) (y0 : Int32) (t : cS) : kO := ko_call 5 (rk 176 [] t) (fun g1 v1 => co_v v1 (cf_184_63 N X rk x1 x3 g1))
theorem cr_184_58 {X : Nat → Option zz_C} {s : mS} {N : Nat} {rk : Nat → List Value → cS → kO} {D : Nat} (hrk : cK1 X s D rk) (hB : 162 ≤ D) {d : Nat} (hd : D + 1 ≤ d) {Q : zz_O → zz_H → Prop} {x1 : Int32} {x3 : Int32} {y0 : Int32} {h : zz_H} {t t' : cS} {o : kY} (hR : kR h t s) (hf : cf_184_58 N X rk x1 x3 y0 t = some (t', o)) (k : (∀ h', kR h' t' s → kE o Q h')) : zz_J zp_P zt_tf zt_fd X d zm_184 58 [(0, .ref 2), (1, .int x1), (3, .int x3)] [.int y0] h Q := by
  unfold cf_184_58 at hf
  obtain ⟨d', rfl⟩ : ∃ d', d = d' + 1 := ⟨d - 1, by omega⟩
  refine cb_184_58 hR  (fun {h} hR => ?_)
  rcases ko_call_ok hf with ⟨g1, v1, er, hf⟩ | ⟨g1, er, hq⟩
  · obtain ⟨hv, hf2⟩ := co_v_ok hf
    clear hf
    have hf := hf2
    clear hf2
    subst hv
    refine hrk.1 (by omega) hR er (fun h hR => ?_)
    exact cr_184_63 hrk hB hd hR hf k
  · refine hrk.1 (by omega) hR er (fun h hR => ?_)
    exact ko_thrown hq hR k
def cf_184_47 (N : Nat) (X : Nat → Option zz_C) (rk : Nat → List Value → cS → kO) (x1 : Int32) (x2 : Int32) (y0 : Int32) (t : cS) : kO := co_b ((kP t 2 1)) (fun w0 => if w0 = 12 ∨ w0 = 21 then (ko_call 6 (cf_209 N X w0 2 x2 x1 t) (fun g1 v1 => co_i v1 (fun y => cf_184_58 N X rk x1 y0 y g1))) else none)
theorem cr_184_47 {X : Nat → Option zz_C} {s : mS} {N : Nat} {rk : Nat → List Value → cS → kO} {D : Nat} (hrk : cK1 X s D rk) (hB : 162 ≤ D) {d : Nat} (hd : D + 1 ≤ d) {Q : zz_O → zz_H → Prop} {x1 : Int32} {x2 : Int32} {y0 : Int32} {h : zz_H} {t t' : cS} {o : kY} (hR : kR h t s) (hf : cf_184_47 N X rk x1 x2 y0 t = some (t', o)) (k : (∀ h', kR h' t' s → kE o Q h')) : zz_J zp_P zt_tf zt_fd X d zm_184 47 [(0, .ref 2), (1, .int x1), (2, .int x2)] [.int y0] h Q := by
  unfold cf_184_47 at hf
  obtain ⟨w0, e0, hf⟩ := co_b_ok hf
  obtain ⟨e1, hf⟩ := ko_if hf
  obtain ⟨d', rfl⟩ : ∃ d', d = d' + 1 := ⟨d - 1, by omega⟩
  refine cb_184_47 hR e0 e1 (fun {h} hR => ?_)
  rcases ko_call_ok hf with ⟨g1, v1, er, hf⟩ | ⟨g1, er, hq⟩
  · obtain ⟨y, hv, hf2⟩ := co_i_ok hf
    clear hf
    have hf := hf2
    clear hf2
    subst hv
    refine cr_209 (by omega) hR er (fun h hR => ?_)
    exact cr_184_58 hrk hB hd hR hf k
  · refine cr_209 (by omega) hR er (fun h hR => ?_)
    exact ko_thrown hq hR k
def cf_184_35 (N : Nat) (X : Nat → Option zz_C) (rk : Nat → List Value → cS → kO) (x1 : Int32) (x2 : Int32) (y0 : Int32) (t : cS) : kO := co_b ((kP t 2 1)) (fun w0 => if w0 = 12 ∨ w0 = 21 then (ko_call 6 (cf_209 N X w0 27 0 x1 t) (fun g1 v1 => co_i v1 (fun y => cf_184_47 N X rk x1 x2 y g1))) else none)
theorem cr_184_35 {X : Nat → Option zz_C} {s : mS} {N : Nat} {rk : Nat → List Value → cS → kO} {D : Nat} (hrk : cK1 X s D rk) (hB : 162 ≤ D) {d : Nat} (hd : D + 1 ≤ d) {Q : zz_O → zz_H → Prop} {x1 : Int32} {x2 : Int32} {y0 : Int32} {h : zz_H} {t t' : cS} {o : kY} (hR : kR h t s) (hf : cf_184_35 N X rk x1 x2 y0 t = some (t', o)) (k : (∀ h', kR h' t' s → kE o Q h')) : zz_J zp_P zt_tf zt_fd X d zm_184 35 [(0, .ref 2), (1, .int x1), (2, .int x2)] [.int y0] h Q := by
  unfold cf_184_35 at hf
  obtain ⟨w0, e0, hf⟩ := co_b_ok hf
  obtain ⟨e1, hf⟩ := ko_if hf
  obtain ⟨d', rfl⟩ : ∃ d', d = d' + 1 := ⟨d - 1, by omega⟩
  refine cb_184_35 hR e0 e1 (fun {h} hR => ?_)
  rcases ko_call_ok hf with ⟨g1, v1, er, hf⟩ | ⟨g1, er, hq⟩
  · obtain ⟨y, hv, hf2⟩ := co_i_ok hf
    clear hf
    have hf := hf2
    clear hf2
    subst hv
    refine cr_209 (by omega) hR er (fun h hR => ?_)
    exact cr_184_47 hrk hB hd hR hf k
  · refine cr_209 (by omega) hR er (fun h hR => ?_)
    exact ko_thrown hq hR k
def cf_184_24 (N : Nat) (X : Nat → Option zz_C) (rk : Nat → List Value → cS → kO) (x1 : Int32) (x2 : Int32) (t : cS) : kO := co_b ((kP t 2 1)) (fun w0 => if w0 = 12 ∨ w0 = 21 then (ko_call 6 (cf_209 N X w0 6 0 x1 t) (fun g1 v1 => co_i v1 (fun y => cf_184_35 N X rk x1 x2 y g1))) else none)
theorem cr_184_24 {X : Nat → Option zz_C} {s : mS} {N : Nat} {rk : Nat → List Value → cS → kO} {D : Nat} (hrk : cK1 X s D rk) (hB : 162 ≤ D) {d : Nat} (hd : D + 1 ≤ d) {Q : zz_O → zz_H → Prop} {x1 : Int32} {x2 : Int32} {h : zz_H} {t t' : cS} {o : kY} (hR : kR h t s) (hf : cf_184_24 N X rk x1 x2 t = some (t', o)) (k : (∀ h', kR h' t' s → kE o Q h')) : zz_J zp_P zt_tf zt_fd X d zm_184 24 [(0, .ref 2), (1, .int x1), (2, .int x2)] [] h Q := by
  unfold cf_184_24 at hf
  obtain ⟨w0, e0, hf⟩ := co_b_ok hf
  obtain ⟨e1, hf⟩ := ko_if hf
  obtain ⟨d', rfl⟩ : ∃ d', d = d' + 1 := ⟨d - 1, by omega⟩
  refine cb_184_24 hR e0 e1 (fun {h} hR => ?_)
  rcases ko_call_ok hf with ⟨g1, v1, er, hf⟩ | ⟨g1, er, hq⟩
  · obtain ⟨y, hv, hf2⟩ := co_i_ok hf
    clear hf
    have hf := hf2
    clear hf2
    subst hv
    refine cr_209 (by omega) hR er (fun h hR => ?_)
    exact cr_184_35 hrk hB hd hR hf k
  · refine cr_209 (by omega) hR er (fun h hR => ?_)
    exact ko_thrown hq hR k
def cf_184_19 (N : Nat) (X : Nat → Option zz_C) (rk : Nat → List Value → cS → kO) (x1 : Int32) (x2 : Int32) (t : cS) : kO := ko_call 5 (cf_S0 N X 150 186 [.int 0] t) (fun g1 v1 => co_v v1 (cf_184_24 N X rk x1 x2 g1))
theorem cr_184_19 {X : Nat → Option zz_C} {s : mS} {N : Nat} {rk : Nat → List Value → cS → kO} {D : Nat} (hrk : cK1 X s D rk) (hB : 162 ≤ D) {d : Nat} (hd : D + 1 ≤ d) {Q : zz_O → zz_H → Prop} {x1 : Int32} {x2 : Int32} {h : zz_H} {t t' : cS} {o : kY} (hR : kR h t s) (hf : cf_184_19 N X rk x1 x2 t = some (t', o)) (k : (∀ h', kR h' t' s → kE o Q h')) : zz_J zp_P zt_tf zt_fd X d zm_184 19 [(0, .ref 2), (1, .int x1), (2, .int x2)] [] h Q := by
  unfold cf_184_19 at hf
  obtain ⟨d', rfl⟩ : ∃ d', d = d' + 1 := ⟨d - 1, by omega⟩
  refine cb_184_19 hR  (fun {h} hR => ?_)
  rcases ko_call_ok hf with ⟨g1, v1, er, hf⟩ | ⟨g1, er, hq⟩
  · obtain ⟨hv, hf2⟩ := co_v_ok hf
    clear hf
    have hf := hf2
    clear hf2
    subst hv
    refine (cr_S0 150).1 (by omega) hR er (fun h hR => ?_)
    exact cr_184_24 hrk hB hd hR hf k
  · refine (cr_S0 150).1 (by omega) hR er (fun h hR => ?_)
    exact ko_thrown hq hR k
def cf_184_11 (N : Nat) (X : Nat → Option zz_C) (rk : Nat → List Value → cS → kO) (x1 : Int32) (y0 : Int32) (t : cS) : kO := ko_call 5 (cf_200 N X (zz_out + 6) t) (fun g1 v1 => co_v v1 (cf_184_19 N X rk x1 y0 g1))
theorem cr_184_11 {X : Nat → Option zz_C} {s : mS} {N : Nat} {rk : Nat → List Value → cS → kO} {D : Nat} (hrk : cK1 X s D rk) (hB : 162 ≤ D) {d : Nat} (hd : D + 1 ≤ d) {Q : zz_O → zz_H → Prop} {x1 : Int32} {y0 : Int32} {h : zz_H} {t t' : cS} {o : kY} (hR : kR h t s) (hf : cf_184_11 N X rk x1 y0 t = some (t', o)) (k : (∀ h', kR h' t' s → kE o Q h')) : zz_J zp_P zt_tf zt_fd X d zm_184 11 [(0, .ref 2), (1, .int x1)] [.int y0] h Q := by
  unfold cf_184_11 at hf
  obtain ⟨d', rfl⟩ : ∃ d', d = d' + 1 := ⟨d - 1, by omega⟩
  refine cb_184_11 hR  (fun {h} hR => ?_)
  rcases ko_call_ok hf with ⟨g1, v1, er, hf⟩ | ⟨g1, er, hq⟩
  · obtain ⟨hv, hf2⟩ := co_v_ok hf
    clear hf
    have hf := hf2
    clear hf2
    subst hv
    refine cr_200 (by omega) hR er (fun h hR => ?_)
    exact cr_184_19 hrk hB hd hR hf k
  · refine cr_200 (by omega) hR er (fun h hR => ?_)
    exact ko_thrown hq hR k
def cf_184_7 (N : Nat) (X : Nat → Option zz_C) (rk : Nat → List Value → cS → kO) (x1 : Int32) (t : cS) : kO := ko_call 5 (cf_195 N X  t) (fun g1 v1 => co_i v1 (fun y => cf_184_11 N X rk x1 y g1))
theorem cr_184_7 {X : Nat → Option zz_C} {s : mS} {N : Nat} {rk : Nat → List Value → cS → kO} {D : Nat} (hrk : cK1 X s D rk) (hB : 162 ≤ D) {d : Nat} (hd : D + 1 ≤ d) {Q : zz_O → zz_H → Prop} {x1 : Int32} {h : zz_H} {t t' : cS} {o : kY} (hR : kR h t s) (hf : cf_184_7 N X rk x1 t = some (t', o)) (k : (∀ h', kR h' t' s → kE o Q h')) : zz_J zp_P zt_tf zt_fd X d zm_184 7 [(0, .ref 2), (1, .int x1)] [] h Q := by
  unfold cf_184_7 at hf
  obtain ⟨d', rfl⟩ : ∃ d', d = d' + 1 := ⟨d - 1, by omega⟩
  refine cb_184_7 hR  (fun {h} hR => ?_)
  rcases ko_call_ok hf with ⟨g1, v1, er, hf⟩ | ⟨g1, er, hq⟩
  · obtain ⟨y, hv, hf2⟩ := co_i_ok hf
    clear hf
    have hf := hf2
    clear hf2
    subst hv
    refine cr_195 (by omega) hR er (fun h hR => ?_)
    exact cr_184_11 hrk hB hd hR hf k
  · refine cr_195 (by omega) hR er (fun h hR => ?_)
    exact ko_thrown hq hR k
def cf_184_0 (N : Nat) (X : Nat → Option zz_C) (rk : Nat → List Value → cS → kO) (x1 : Int32) (t : cS) : kO := ko_call 10 (cf_46 N X  t) (fun g1 v1 => co_v v1 (cf_184_7 N X rk x1 g1))
theorem cr_184_0 {X : Nat → Option zz_C} {s : mS} {N : Nat} {rk : Nat → List Value → cS → kO} {D : Nat} (hrk : cK1 X s D rk) (hB : 162 ≤ D) {d : Nat} (hd : D + 1 ≤ d) {Q : zz_O → zz_H → Prop} {x1 : Int32} {h : zz_H} {t t' : cS} {o : kY} (hR : kR h t s) (hf : cf_184_0 N X rk x1 t = some (t', o)) (k : (∀ h', kR h' t' s → kE o Q h')) : zz_J zp_P zt_tf zt_fd X d zm_184 0 [(0, .ref 2), (1, .int x1)] [] h Q := by
  unfold cf_184_0 at hf
  obtain ⟨d', rfl⟩ : ∃ d', d = d' + 1 := ⟨d - 1, by omega⟩
  refine cb_184_0 hR  (fun {h} hR => ?_)
  rcases ko_call_ok hf with ⟨g1, v1, er, hf⟩ | ⟨g1, er, hq⟩
  · obtain ⟨hv, hf2⟩ := co_v_ok hf
    clear hf
    have hf := hf2
    clear hf2
    subst hv
    refine cr_46 (by omega) hR er (fun h hR => ?_)
    exact cr_184_7 hrk hB hd hR hf k
  · refine cr_46 (by omega) hR er (fun h hR => ?_)
    exact ko_thrown hq hR k
/-- forStatement -/
def cf_184 (N : Nat) (X : Nat → Option zz_C) (rk : Nat → List Value → cS → kO) (x1 : Int32) (t : cS) : kO := cf_184_0 N X rk x1 t
theorem cr_184 {X : Nat → Option zz_C} {s : mS} {N : Nat} {rk : Nat → List Value → cS → kO} {D : Nat} (hrk : cK1 X s D rk) (hB : 162 ≤ D) {d : Nat} (hd : D + 1 ≤ d) {Q : zz_O → zz_H → Prop} {x1 : Int32} {h : zz_H} {t t' : cS} {o : kY} (hR : kR h t s) (hf : cf_184 N X rk x1 t = some (t', o)) (k : ∀ h', kR h' t' s → kE o Q h') : zz_J zp_P zt_tf zt_fd X d zm_184 0 [(0, .ref 2), (1, .int x1)] [] h Q := by
  unfold cf_184 at hf
  exact zz_J.weak (cr_184_0 hrk hB hd hR hf k) rfl ⟨rfl, rfl, trivial⟩
/-! yX5_tryStatement -/
theorem cb_185_0 {X : Nat → Option zz_C} {h : zz_H} {t : cS} {s : mS} {d : Nat} {Q : zz_O → zz_H → Prop}  (hR : kR h t s) (k : ∀ {h : zz_H}, kR h t s → zz_J zp_P zt_tf zt_fd X d zm_46 0 [(0, .ref 3)] [] h (zz_after 10 Q (fun v h' => zz_J zp_P zt_tf zt_fd X (d + 1) zm_185 7 [(0, .ref 2)] (v.toList ++ []) h' Q))) : zz_J zp_P zt_tf zt_fd X (d + 1) zm_185 0 [(0, .ref 2)] [] h Q := by
  refine zz_J.n 1 rfl rfl rfl ?_
  refine zz_J.g 4 rfl (hR.gv (v := .ref 3) ko_2 (by decide) rfl) rfl ?_
  refine zz_J.cv 7 (as := []) rfl rfl (hR.clO ko_3 (by decide) (by decide)) (by decide) (Nat.le_of_ble_eq_true rfl) (Nat.le_of_ble_eq_true rfl) rfl (Nat.le_of_ble_eq_true rfl) rfl ?_
  refine zz_J.mono (k hR) ?_
  intro o h' hE
  cases o with
  | inl v => exact zz_J.weak hE rfl ⟨rfl, trivial⟩
  | inr q => exact hE
theorem cb_185_7 {X : Nat → Option zz_C} {h : zz_H} {t : cS} {s : mS} {d : Nat} {Q : zz_O → zz_H → Prop}  (hR : kR h t s) {w0 : Nat} (e0 : (kP t 2 1) = some w0) (e1 : w0 = 12 ∨ w0 = 21) (k : ∀ {h : zz_H}, kR h t s → zz_J zp_P zt_tf zt_fd X d zm_209 0 [(0, .ref w0), (1, .int 10), (2, .int 0), (3, .int 0)] [] h (zz_after 6 Q (fun v h' => zz_J zp_P zt_tf zt_fd X (d + 1) zm_185 18 [(0, .ref 2)] (v.toList ++ []) h' Q))) : zz_J zp_P zt_tf zt_fd X (d + 1) zm_185 7 [(0, .ref 2)] [] h Q := by
  refine zz_J.n 8 rfl rfl rfl ?_
  refine zz_J.g 11 rfl (hR.gv (v := .ref w0) ko_2 (by decide) ((congrArg (fun q => some (zz_rv q)) e0).trans rfl)) rfl ?_
  refine zz_J.c 13 (.int 10) rfl rfl rfl rfl ?_
  refine zz_J.c 14 (.int 0) rfl rfl rfl rfl ?_
  refine zz_J.c 15 (.int 0) rfl rfl rfl rfl ?_
  refine zz_J.cv 18 (as := []) rfl rfl (hR.clO (ko_P e1) (by decide) (by decide)) (by decide) (Nat.le_of_ble_eq_true rfl) (Nat.le_of_ble_eq_true rfl) rfl (Nat.le_of_ble_eq_true rfl) rfl ?_
  refine zz_J.mono (k hR) ?_
  intro o h' hE
  cases o with
  | inl v => exact zz_J.weak hE rfl ⟨rfl, trivial⟩
  | inr q => exact hE
theorem cb_185_18 {X : Nat → Option zz_C} {h : zz_H} {t : cS} {s : mS} {d : Nat} {Q : zz_O → zz_H → Prop} {y0 : Int32} (hR : kR h t s) (k : ∀ {h : zz_H}, kR h t s → zz_J zp_P zt_tf zt_fd X d zm_176 0 [(0, .ref 2)] [] h (zz_after 5 Q (fun v h' => zz_J zp_P zt_tf zt_fd X (d + 1) zm_185 23 [(0, .ref 2), (1, .int y0)] (v.toList ++ []) h' Q))) : zz_J zp_P zt_tf zt_fd X (d + 1) zm_185 18 [(0, .ref 2)] [.int y0] h Q := by
  refine zz_J.n 19 rfl rfl rfl ?_
  refine zz_J.n 20 rfl rfl rfl ?_
  refine zz_J.cv 23 (as := []) rfl rfl (hR.clO ko_2 (by decide) (by decide)) (by decide) (Nat.le_of_ble_eq_true rfl) (Nat.le_of_ble_eq_true rfl) rfl (Nat.le_of_ble_eq_true rfl) rfl ?_
  refine zz_J.mono (k hR) ?_
  intro o h' hE
  cases o with
  | inl v => exact zz_J.weak hE rfl ⟨rfl, rfl, trivial⟩
  | inr q => exact hE
theorem cb_185_23 {X : Nat → Option zz_C} {h : zz_H} {t : cS} {s : mS} {d : Nat} {Q : zz_O → zz_H → Prop} {x1 : Int32} (hR : kR h t s) {w0 : Nat} (e0 : (kP t 2 1) = some w0) (e1 : w0 = 12 ∨ w0 = 21) (k : ∀ {h : zz_H}, kR h t s → zz_J zp_P zt_tf zt_fd X d zm_209 0 [(0, .ref w0), (1, .int 11), (2, .int 0), (3, .int 0)] [] h (zz_after 6 Q (fun v h' => zz_J zp_P zt_tf zt_fd X (d + 1) zm_185 34 [(0, .ref 2), (1, .int x1)] (v.toList ++ []) h' Q))) : zz_J zp_P zt_tf zt_fd X (d + 1) zm_185 23 [(0, .ref 2), (1, .int x1)] [] h Q := by
  refine zz_J.n 24 rfl rfl rfl ?_
  refine zz_J.g 27 rfl (hR.gv (v := .ref w0) ko_2 (by decide) ((congrArg (fun q => some (zz_rv q)) e0).trans rfl)) rfl ?_
  refine zz_J.c 29 (.int 11) rfl rfl rfl rfl ?_
  refine zz_J.c 30 (.int 0) rfl rfl rfl rfl ?_
  refine zz_J.c 31 (.int 0) rfl rfl rfl rfl ?_
  refine zz_J.cv 34 (as := []) rfl rfl (hR.clO (ko_P e1) (by decide) (by decide)) (by decide) (Nat.le_of_ble_eq_true rfl) (Nat.le_of_ble_eq_true rfl) rfl (Nat.le_of_ble_eq_true rfl) rfl ?_
  refine zz_J.mono (k hR) ?_
  intro o h' hE
  cases o with
  | inl v => exact zz_J.weak hE rfl ⟨rfl, rfl, trivial⟩
  | inr q => exact hE
theorem cb_185_34 {X : Nat → Option zz_C} {h : zz_H} {t : cS} {s : mS} {d : Nat} {Q : zz_O → zz_H → Prop} {x1 : Int32} {y0 : Int32} (hR : kR h t s) {w0 : Nat} (e0 : (kP t 2 1) = some w0) {w1 : Nat} (e1 : (kP t 2 1) = some w1) (e2 : w1 = 12 ∨ w1 = 21) (k : ∀ {h : zz_H}, kR h t s → zz_J zp_P zt_tf zt_fd X d zm_203 0 [(0, .ref w1)] [] h (zz_after 6 Q (fun v h' => zz_J zp_P zt_tf zt_fd X (d + 1) zm_185 47 [(0, .ref 2), (2, .int y0)] (v.toList ++ [.int x1, .ref w0]) h' Q))) : zz_J zp_P zt_tf zt_fd X (d + 1) zm_185 34 [(0, .ref 2), (1, .int x1)] [.int y0] h Q := by
  refine zz_J.n 35 rfl rfl rfl ?_
  refine zz_J.n 36 rfl rfl rfl ?_
  refine zz_J.g 39 rfl (hR.gv (v := .ref w0) ko_2 (by decide) ((congrArg (fun q => some (zz_rv q)) e0).trans rfl)) rfl ?_
  refine zz_J.n 40 rfl rfl rfl ?_
  refine zz_J.n 41 rfl rfl rfl ?_
  refine zz_J.g 44 rfl (hR.gv (v := .ref w1) ko_2 (by decide) ((congrArg (fun q => some (zz_rv q)) e1).trans rfl)) rfl ?_
  refine zz_J.cv 47 (as := [.int x1, .ref w0]) rfl rfl (hR.clO (ko_P e2) (by decide) (by decide)) (by decide) (Nat.le_of_ble_eq_true rfl) (Nat.le_of_ble_eq_true rfl) rfl (Nat.le_of_ble_eq_true rfl) rfl ?_
  refine zz_J.mono (k hR) ?_
  intro o h' hE
  cases o with
  | inl v => exact zz_J.weak hE rfl ⟨rfl, rfl, trivial⟩
  | inr q => exact hE
theorem cb_185_47 {X : Nat → Option zz_C} {h : zz_H} {t : cS} {s : mS} {d : Nat} {Q : zz_O → zz_H → Prop} {x2 : Int32} {y0 : Nat} {y1 : Int32} {y2 : Int32} (hR : kR h t s) (e0 : y0 = 12 ∨ y0 = 21) (k : ∀ {h : zz_H}, kR h t s → zz_J zp_P zt_tf zt_fd X d zm_210 0 [(0, .ref y0), (1, .int y1), (2, .int y2)] [] h (zz_after 6 Q (fun v h' => zz_J zp_P zt_tf zt_fd X (d + 1) zm_185 50 [(0, .ref 2), (2, .int x2)] (v.toList ++ []) h' Q))) : zz_J zp_P zt_tf zt_fd X (d + 1) zm_185 47 [(0, .ref 2), (2, .int x2)] [.int y2, .int y1, .ref y0] h Q := by
  refine zz_J.cv 50 (as := []) rfl rfl (hR.clO (ko_P e0) (by decide) (by decide)) (by decide) (Nat.le_of_ble_eq_true rfl) (Nat.le_of_ble_eq_true rfl) rfl (Nat.le_of_ble_eq_true rfl) rfl ?_
  refine zz_J.mono (k hR) ?_
  intro o h' hE
  cases o with
  | inl v => exact zz_J.weak hE rfl ⟨rfl, rfl, trivial⟩
  | inr q => exact hE
theorem cb_185_50 {X : Nat → Option zz_C} {h : zz_H} {t : cS} {s : mS} {d : Nat} {Q : zz_O → zz_H → Prop} {x2 : Int32} (hR : kR h t s) (k : ∀ {h : zz_H}, kR h t s → zz_J zp_P zt_tf zt_fd X d zm_243 0 [(0, .ref 3)] [] h (zz_after 10 Q (fun v h' => zz_J zp_P zt_tf zt_fd X (d + 1) zm_185 57 [(0, .ref 2), (2, .int x2)] (v.toList ++ []) h' Q))) : zz_J zp_P zt_tf zt_fd X (d + 1) zm_185 50 [(0, .ref 2), (2, .int x2)] [] h Q := by
  refine zz_J.n 51 rfl rfl rfl ?_
  refine zz_J.g 54 rfl (hR.gv (v := .ref 3) ko_2 (by decide) rfl) rfl ?_
  refine zz_J.cv 57 (as := []) rfl rfl (hR.clO ko_3 (by decide) (by decide)) (by decide) (Nat.le_of_ble_eq_true rfl) (Nat.le_of_ble_eq_true rfl) rfl (Nat.le_of_ble_eq_true rfl) rfl ?_
  refine zz_J.mono (k hR) ?_
  intro o h' hE
  cases o with
  | inl v => exact zz_J.weak hE rfl ⟨rfl, rfl, trivial⟩
  | inr q => exact hE
theorem cb_185_57 {X : Nat → Option zz_C} {h : zz_H} {t : cS} {s : mS} {d : Nat} {Q : zz_O → zz_H → Prop} {x2 : Int32} {y0 : Int32} (hR : kR h t s) (k : ∀ {h : zz_H}, kR h t s → zz_J zp_P zt_tf zt_fd X d zm_200 0 [(0, .ref 2), (1, .ref (zz_out + 11))] [] h (zz_after 5 Q (fun v h' => zz_J zp_P zt_tf zt_fd X (d + 1) zm_185 65 [(0, .ref 2), (2, .int x2), (3, .int y0)] (v.toList ++ []) h' Q))) : zz_J zp_P zt_tf zt_fd X (d + 1) zm_185 57 [(0, .ref 2), (2, .int x2)] [.int y0] h Q := by
  refine zz_J.n 58 rfl rfl rfl ?_
  refine zz_J.n 59 rfl rfl rfl ?_
  refine zz_J.c 62 (.ref (zz_out + 11)) rfl rfl rfl rfl ?_
  refine zz_J.cv 65 (as := []) rfl rfl (hR.clO ko_2 (by decide) (by decide)) (by decide) (Nat.le_of_ble_eq_true rfl) (Nat.le_of_ble_eq_true rfl) rfl (Nat.le_of_ble_eq_true rfl) rfl ?_
  refine zz_J.mono (k hR) ?_
  intro o h' hE
  cases o with
  | inl v => exact zz_J.weak hE rfl ⟨rfl, rfl, rfl, trivial⟩
  | inr q => exact hE
theorem cb_185_65 {X : Nat → Option zz_C} {h : zz_H} {t : cS} {s : mS} {d : Nat} {Q : zz_O → zz_H → Prop} {x2 : Int32} {x3 : Int32} (hR : kR h t s) (k : ∀ {h : zz_H}, kR h t s → zz_J zp_P zt_tf zt_fd X d zm_195 0 [(0, .ref 2)] [] h (zz_after 5 Q (fun v h' => zz_J zp_P zt_tf zt_fd X (d + 1) zm_185 69 [(0, .ref 2), (2, .int x2), (3, .int x3)] (v.toList ++ []) h' Q))) : zz_J zp_P zt_tf zt_fd X (d + 1) zm_185 65 [(0, .ref 2), (2, .int x2), (3, .int x3)] [] h Q := by
  refine zz_J.n 66 rfl rfl rfl ?_
  refine zz_J.cv 69 (as := []) rfl rfl (hR.clO ko_2 (by decide) (by decide)) (by decide) (Nat.le_of_ble_eq_true rfl) (Nat.le_of_ble_eq_true rfl) rfl (Nat.le_of_ble_eq_true rfl) rfl ?_
  refine zz_J.mono (k hR) ?_
  intro o h' hE
  cases o with
  | inl v => exact zz_J.weak hE rfl ⟨rfl, rfl, rfl, trivial⟩
  | inr q => exact hE
theorem cb_185_69 {X : Nat → Option zz_C} {h : zz_H} {t : cS} {s : mS} {d : Nat} {Q : zz_O → zz_H → Prop} {x2 : Int32} {x3 : Int32} {y0 : Int32} (hR : kR h t s) {w0 : Nat} (e0 : (kP t 2 1) = some w0) (e1 : w0 = 12 ∨ w0 = 21) (k : ∀ {h : zz_H}, kR h t s → zz_J zp_P zt_tf zt_fd X d zm_209 0 [(0, .ref w0), (1, .int 12), (2, .int 0), (3, .int x3)] [] h (zz_after 6 Q (fun v h' => zz_J zp_P zt_tf zt_fd X (d + 1) zm_185 82 [(0, .ref 2), (2, .int x2), (3, .int x3), (4, .int y0)] (v.toList ++ []) h' Q))) : zz_J zp_P zt_tf zt_fd X (d + 1) zm_185 69 [(0, .ref 2), (2, .int x2), (3, .int x3)] [.int y0] h Q := by
  refine zz_J.n 71 rfl rfl rfl ?_
  refine zz_J.n 72 rfl rfl rfl ?_
  refine zz_J.g 75 rfl (hR.gv (v := .ref w0) ko_2 (by decide) ((congrArg (fun q => some (zz_rv q)) e0).trans rfl)) rfl ?_
  refine zz_J.c 77 (.int 12) rfl rfl rfl rfl ?_
  refine zz_J.c 78 (.int 0) rfl rfl rfl rfl ?_
  refine zz_J.n 79 rfl rfl rfl ?_
  refine zz_J.cv 82 (as := []) rfl rfl (hR.clO (ko_P e1) (by decide) (by decide)) (by decide) (Nat.le_of_ble_eq_true rfl) (Nat.le_of_ble_eq_true rfl) rfl (Nat.le_of_ble_eq_true rfl) rfl ?_
  refine zz_J.mono (k hR) ?_
  intro o h' hE
  cases o with
  | inl v => exact zz_J.weak hE rfl ⟨rfl, rfl, rfl, rfl, trivial⟩
  | inr q => exact hE
theorem cb_185_82 {X : Nat → Option zz_C} {h : zz_H} {t : cS} {s : mS} {d : Nat} {Q : zz_O → zz_H → Prop} {x2 : Int32} {x3 : Int32} {x4 : Int32} {y0 : Int32} (hR : kR h t s) {w0 : Nat} (e0 : (kP t 2 1) = some w0) (e1 : w0 = 12 ∨ w0 = 21) (k : ∀ {h : zz_H}, kR h t s → zz_J zp_P zt_tf zt_fd X d zm_209 0 [(0, .ref w0), (1, .int 2), (2, .int x4), (3, .int x3)] [] h (zz_after 6 Q (fun v h' => zz_J zp_P zt_tf zt_fd X (d + 1) zm_185 94 [(0, .ref 2), (2, .int x2)] (v.toList ++ []) h' Q))) : zz_J zp_P zt_tf zt_fd X (d + 1) zm_185 82 [(0, .ref 2), (2, .int x2), (3, .int x3), (4, .int x4)] [.int y0] h Q := by
  refine zz_J.n 83 rfl rfl rfl ?_
  refine zz_J.n 84 rfl rfl rfl ?_
  refine zz_J.g 87 rfl (hR.gv (v := .ref w0) ko_2 (by decide) ((congrArg (fun q => some (zz_rv q)) e0).trans rfl)) rfl ?_
  refine zz_J.c 88 (.int 2) rfl rfl rfl rfl ?_
  refine zz_J.n 90 rfl rfl rfl ?_
  refine zz_J.n 91 rfl rfl rfl ?_
  refine zz_J.cv 94 (as := []) rfl rfl (hR.clO (ko_P e1) (by decide) (by decide)) (by decide) (Nat.le_of_ble_eq_true rfl) (Nat.le_of_ble_eq_true rfl) rfl (Nat.le_of_ble_eq_true rfl) rfl ?_
  refine zz_J.mono (k hR) ?_
  intro o h' hE
  cases o with
  | inl v => exact zz_J.weak hE rfl ⟨rfl, rfl, trivial⟩
  | inr q => exact hE
theorem cb_185_94 {X : Nat → Option zz_C} {h : zz_H} {t : cS} {s : mS} {d : Nat} {Q : zz_O → zz_H → Prop} {x2 : Int32} {y0 : Int32} (hR : kR h t s) (k : ∀ {h : zz_H}, kR h t s → zz_J zp_P zt_tf zt_fd X d zm_176 0 [(0, .ref 2)] [] h (zz_after 5 Q (fun v h' => zz_J zp_P zt_tf zt_fd X (d + 1) zm_185 99 [(0, .ref 2), (2, .int x2)] (v.toList ++ []) h' Q))) : zz_J zp_P zt_tf zt_fd X (d + 1) zm_185 94 [(0, .ref 2), (2, .int x2)] [.int y0] h Q := by
  refine zz_J.n 95 rfl rfl rfl ?_
  refine zz_J.n 96 rfl rfl rfl ?_
  refine zz_J.cv 99 (as := []) rfl rfl (hR.clO ko_2 (by decide) (by decide)) (by decide) (Nat.le_of_ble_eq_true rfl) (Nat.le_of_ble_eq_true rfl) rfl (Nat.le_of_ble_eq_true rfl) rfl ?_
  refine zz_J.mono (k hR) ?_
  intro o h' hE
  cases o with
  | inl v => exact zz_J.weak hE rfl ⟨rfl, rfl, trivial⟩
  | inr q => exact hE
theorem cb_185_99 {X : Nat → Option zz_C} {h : zz_H} {t : cS} {s : mS} {d : Nat} {Q : zz_O → zz_H → Prop} {x2 : Int32} (hR : kR h t s) {w0 : Nat} (e0 : (kP t 2 1) = some w0) {w1 : Nat} (e1 : (kP t 2 1) = some w1) (e2 : w1 = 12 ∨ w1 = 21) (k : ∀ {h : zz_H}, kR h t s → zz_J zp_P zt_tf zt_fd X d zm_203 0 [(0, .ref w1)] [] h (zz_after 6 Q (fun v h' => zz_J zp_P zt_tf zt_fd X (d + 1) zm_185 111 [] (v.toList ++ [.int x2, .ref w0]) h' Q))) : zz_J zp_P zt_tf zt_fd X (d + 1) zm_185 99 [(0, .ref 2), (2, .int x2)] [] h Q := by
  refine zz_J.n 100 rfl rfl rfl ?_
  refine zz_J.g 103 rfl (hR.gv (v := .ref w0) ko_2 (by decide) ((congrArg (fun q => some (zz_rv q)) e0).trans rfl)) rfl ?_
  refine zz_J.n 104 rfl rfl rfl ?_
  refine zz_J.n 105 rfl rfl rfl ?_
  refine zz_J.g 108 rfl (hR.gv (v := .ref w1) ko_2 (by decide) ((congrArg (fun q => some (zz_rv q)) e1).trans rfl)) rfl ?_
  refine zz_J.cv 111 (as := [.int x2, .ref w0]) rfl rfl (hR.clO (ko_P e2) (by decide) (by decide)) (by decide) (Nat.le_of_ble_eq_true rfl) (Nat.le_of_ble_eq_true rfl) rfl (Nat.le_of_ble_eq_true rfl) rfl ?_
  refine zz_J.mono (k hR) ?_
  intro o h' hE
  cases o with
  | inl v => exact zz_J.weak hE rfl trivial
  | inr q => exact hE
theorem cb_185_111 {X : Nat → Option zz_C} {h : zz_H} {t : cS} {s : mS} {d : Nat} {Q : zz_O → zz_H → Prop} {y0 : Nat} {y1 : Int32} {y2 : Int32} (hR : kR h t s) (e0 : y0 = 12 ∨ y0 = 21) (k : ∀ {h : zz_H}, kR h t s → zz_J zp_P zt_tf zt_fd X d zm_210 0 [(0, .ref y0), (1, .int y1), (2, .int y2)] [] h (zz_after 6 Q (fun v h' => zz_J zp_P zt_tf zt_fd X (d + 1) zm_185 114 [] (v.toList ++ []) h' Q))) : zz_J zp_P zt_tf zt_fd X (d + 1) zm_185 111 [] [.int y2, .int y1, .ref y0] h Q := by
  refine zz_J.cv 114 (as := []) rfl rfl (hR.clO (ko_P e0) (by decide) (by decide)) (by decide) (Nat.le_of_ble_eq_true rfl) (Nat.le_of_ble_eq_true rfl) rfl (Nat.le_of_ble_eq_true rfl) rfl ?_
  refine zz_J.mono (k hR) ?_
  intro o h' hE
  cases o with
  | inl v => exact zz_J.weak hE rfl trivial
  | inr q => exact hE
theorem cb_185_114 {X : Nat → Option zz_C} {h : zz_H} {t : cS} {s : mS} {d : Nat} {Q : zz_O → zz_H → Prop}  (hR : kR h t s) (k : ∀ {h : zz_H}, kR h t s → Q (.inl none) h) : zz_J zp_P zt_tf zt_fd X d zm_185 114 [] [] h Q := by
  refine zz_J.ret rfl rfl rfl ?_
  exact k hR
def cf_185_114 (N : Nat) (X : Nat → Option zz_C) (rk : Nat → List Value → cS → kO)  (t : cS) : kO := some (t, .inl none)
theorem cr_185_114 {X : Nat → Option zz_C} {s : mS} {N : Nat} {rk : Nat → List Value → cS → kO} {D : Nat} (hrk : cK1 X s D rk) (hB : 162 ≤ D) {d : Nat} (hd : D + 1 ≤ d) {Q : zz_O → zz_H → Prop}  {h : zz_H} {t t' : cS} {o : kY} (hR : kR h t s) (hf : cf_185_114 N X rk  t = some (t', o)) (k : (∀ h', kR h' t' s → kE o Q h')) : zz_J zp_P zt_tf zt_fd X d zm_185 114 [] [] h Q := by
  unfold cf_185_114 at hf
  cases hf
  exact cb_185_114 hR  (fun {h} hR => k h hR)
def cf_185_111 (N : Nat) (X : Nat → Option zz_C) (rk : Nat → List Value → cS → kO) (y0 : Nat) (y1 : Int32) (y2 : Int32) (t : cS) : kO := if y0 = 12 ∨ y0 = 21 then (ko_call 6 (cf_210 N X y0 y1 y2 t) (fun g1 v1 => co_v v1 (cf_185_114 N X rk  g1))) else none
theorem cr_185_111 {X : Nat → Option zz_C} {s : mS} {N : Nat} {rk : Nat → List Value → cS → kO} {D : Nat} (hrk : cK1 X s D rk) (hB : 162 ≤ D) {d : Nat} (hd : D + 1 ≤ d) {Q : zz_O → zz_H → Prop} {y0 : Nat} {y1 : Int32} {y2 : Int32} {h : zz_H} {t t' : cS} {o : kY} (hR : kR h t s) (hf : cf_185_111 N X rk y0 y1 y2 t = some (t', o)) (k : (∀ h', kR h' t' s → kE o Q h')) : zz_J zp_P zt_tf zt_fd X d zm_185 111 [] [.int y2, .int y1, .ref y0] h Q := by
  unfold cf_185_111 at hf
  obtain ⟨e0, hf⟩ := ko_if hf
  obtain ⟨d', rfl⟩ : ∃ d', d = d' + 1 := ⟨d - 1, by omega⟩
  refine cb_185_111 hR e0 (fun {h} hR => ?_)
  rcases ko_call_ok hf with ⟨g1, v1, er, hf⟩ | ⟨g1, er, hq⟩
  · obtain ⟨hv, hf2⟩ := co_v_ok hf
    clear hf
    have hf := hf2
    clear hf2
    subst hv
    refine cr_210 (by omega) hR er (fun h hR => ?_)
    exact cr_185_114 hrk hB hd hR hf k
  · refine cr_210 (by omega) hR er (fun h hR => ?_)
    exact ko_thrown hq hR k
def cf_185_99 (N : Nat) (X : Nat → Option zz_C) (rk : Nat → List Value → cS → kO) (x2 : Int32) (t : cS) : kO := co_b ((kP t 2 1)) (fun w0 => co_b ((kP t 2 1)) (fun w1 => if w1 = 12 ∨ w1 = 21 then (ko_call 6 (cf_203 N X w1 t) (fun g1 v1 => co_i v1 (fun y => cf_185_111 N X rk w0 x2 y g1))) else none))
theorem cr_185_99 {X : Nat → Option zz_C} {s : mS} {N : Nat} {rk : Nat → List Value → cS → kO} {D : Nat} (hrk : cK1 X s D rk) (hB : 162 ≤ D) {d : Nat} (hd : D + 1 ≤ d) {Q : zz_O → zz_H → Prop} {x2 : Int32} {h : zz_H} {t t' : cS} {o : kY} (hR : kR h t s) (hf : cf_185_99 N X rk x2 t = some (t', o)) (k : (∀ h', kR h' t' s → kE o Q h')) : zz_J zp_P zt_tf zt_fd X d zm_185 99 [(0, .ref 2), (2, .int x2)] [] h Q := by
  unfold cf_185_99 at hf
  obtain ⟨w0, e0, hf⟩ := co_b_ok hf
  obtain ⟨w1, e1, hf⟩ := co_b_ok hf
  obtain ⟨e2, hf⟩ := ko_if hf
  obtain ⟨d', rfl⟩ : ∃ d', d = d' + 1 := ⟨d - 1, by omega⟩
  refine cb_185_99 hR e0 e1 e2 (fun {h} hR => ?_)
  rcases ko_call_ok hf with ⟨g1, v1, er, hf⟩ | ⟨g1, er, hq⟩
  · obtain ⟨y, hv, hf2⟩ := co_i_ok hf
    clear hf
    have hf := hf2
    clear hf2
    subst hv
    refine cr_203 (by omega) hR er (fun h hR => ?_)
    exact cr_185_111 hrk hB hd hR hf k
  · refine cr_203 (by omega) hR er (fun h hR => ?_)
    exact ko_thrown hq hR k
def cf_185_94 (N : Nat) (X : Nat → Option zz_C) (rk : Nat → List Value → cS → kO) (x2 : Int32) (y0 : Int32) (t : cS) : kO := ko_call 5 (rk 176 [] t) (fun g1 v1 => co_v v1 (cf_185_99 N X rk x2 g1))
theorem cr_185_94 {X : Nat → Option zz_C} {s : mS} {N : Nat} {rk : Nat → List Value → cS → kO} {D : Nat} (hrk : cK1 X s D rk) (hB : 162 ≤ D) {d : Nat} (hd : D + 1 ≤ d) {Q : zz_O → zz_H → Prop} {x2 : Int32} {y0 : Int32} {h : zz_H} {t t' : cS} {o : kY} (hR : kR h t s) (hf : cf_185_94 N X rk x2 y0 t = some (t', o)) (k : (∀ h', kR h' t' s → kE o Q h')) : zz_J zp_P zt_tf zt_fd X d zm_185 94 [(0, .ref 2), (2, .int x2)] [.int y0] h Q := by
  unfold cf_185_94 at hf
  obtain ⟨d', rfl⟩ : ∃ d', d = d' + 1 := ⟨d - 1, by omega⟩
  refine cb_185_94 hR  (fun {h} hR => ?_)
  rcases ko_call_ok hf with ⟨g1, v1, er, hf⟩ | ⟨g1, er, hq⟩
  · obtain ⟨hv, hf2⟩ := co_v_ok hf
    clear hf
    have hf := hf2
    clear hf2
    subst hv
    refine hrk.1 (by omega) hR er (fun h hR => ?_)
    exact cr_185_99 hrk hB hd hR hf k
  · refine hrk.1 (by omega) hR er (fun h hR => ?_)
    exact ko_thrown hq hR k
def cf_185_82 (N : Nat) (X : Nat → Option zz_C) (rk : Nat → List Value → cS → kO) (x2 : Int32) (x3 : Int32) (x4 : Int32) (y0 : Int32) (t : cS) : kO := co_b ((kP t 2 1)) (fun w0 => if w0 = 12 ∨ w0 = 21 then (ko_call 6 (cf_209 N X w0 2 x4 x3 t) (fun g1 v1 => co_i v1 (fun y => cf_185_94 N X rk x2 y g1))) else none)
theorem cr_185_82 {X : Nat → Option zz_C} {s : mS} {N : Nat} {rk : Nat → List Value → cS → kO} {D : Nat} (hrk : cK1 X s D rk) (hB : 162 ≤ D) {d : Nat} (hd : D + 1 ≤ d) {Q : zz_O → zz_H → Prop} {x2 : Int32} {x3 : Int32} {x4 : Int32} {y0 : Int32} {h : zz_H} {t t' : cS} {o : kY} (hR : kR h t s) (hf : cf_185_82 N X rk x2 x3 x4 y0 t = some (t', o)) (k : (∀ h', kR h' t' s → kE o Q h')) : zz_J zp_P zt_tf zt_fd X d zm_185 82 [(0, .ref 2), (2, .int x2), (3, .int x3), (4, .int x4)] [.int y0] h Q := by
  unfold cf_185_82 at hf
  obtain ⟨w0, e0, hf⟩ := co_b_ok hf
  obtain ⟨e1, hf⟩ := ko_if hf
  obtain ⟨d', rfl⟩ : ∃ d', d = d' + 1 := ⟨d - 1, by omega⟩
  refine cb_185_82 hR e0 e1 (fun {h} hR => ?_)
  rcases ko_call_ok hf with ⟨g1, v1, er, hf⟩ | ⟨g1, er, hq⟩
  · obtain ⟨y, hv, hf2⟩ := co_i_ok hf
    clear hf
    have hf := hf2
    clear hf2
    subst hv
    refine cr_209 (by omega) hR er (fun h hR => ?_)
    exact cr_185_94 hrk hB hd hR hf k
  · refine cr_209 (by omega) hR er (fun h hR => ?_)
    exact ko_thrown hq hR k
def cf_185_69 (N : Nat) (X : Nat → Option zz_C) (rk : Nat → List Value → cS → kO) (x2 : Int32) (x3 : Int32) (y0 : Int32) (t : cS) : kO := co_b ((kP t 2 1)) (fun w0 => if w0 = 12 ∨ w0 = 21 then (ko_call 6 (cf_209 N X w0 12 0 x3 t) (fun g1 v1 => co_i v1 (fun y => cf_185_82 N X rk x2 x3 y0 y g1))) else none)
theorem cr_185_69 {X : Nat → Option zz_C} {s : mS} {N : Nat} {rk : Nat → List Value → cS → kO} {D : Nat} (hrk : cK1 X s D rk) (hB : 162 ≤ D) {d : Nat} (hd : D + 1 ≤ d) {Q : zz_O → zz_H → Prop} {x2 : Int32} {x3 : Int32} {y0 : Int32} {h : zz_H} {t t' : cS} {o : kY} (hR : kR h t s) (hf : cf_185_69 N X rk x2 x3 y0 t = some (t', o)) (k : (∀ h', kR h' t' s → kE o Q h')) : zz_J zp_P zt_tf zt_fd X d zm_185 69 [(0, .ref 2), (2, .int x2), (3, .int x3)] [.int y0] h Q := by
  unfold cf_185_69 at hf
  obtain ⟨w0, e0, hf⟩ := co_b_ok hf
  obtain ⟨e1, hf⟩ := ko_if hf
  obtain ⟨d', rfl⟩ : ∃ d', d = d' + 1 := ⟨d - 1, by omega⟩
  refine cb_185_69 hR e0 e1 (fun {h} hR => ?_)
  rcases ko_call_ok hf with ⟨g1, v1, er, hf⟩ | ⟨g1, er, hq⟩
  · obtain ⟨y, hv, hf2⟩ := co_i_ok hf
    clear hf
    have hf := hf2
    clear hf2
    subst hv
    refine cr_209 (by omega) hR er (fun h hR => ?_)
    exact cr_185_82 hrk hB hd hR hf k
  · refine cr_209 (by omega) hR er (fun h hR => ?_)
    exact ko_thrown hq hR k
def cf_185_65 (N : Nat) (X : Nat → Option zz_C) (rk : Nat → List Value → cS → kO) (x2 : Int32) (x3 : Int32) (t : cS) : kO := ko_call 5 (cf_195 N X  t) (fun g1 v1 => co_i v1 (fun y => cf_185_69 N X rk x2 x3 y g1))
theorem cr_185_65 {X : Nat → Option zz_C} {s : mS} {N : Nat} {rk : Nat → List Value → cS → kO} {D : Nat} (hrk : cK1 X s D rk) (hB : 162 ≤ D) {d : Nat} (hd : D + 1 ≤ d) {Q : zz_O → zz_H → Prop} {x2 : Int32} {x3 : Int32} {h : zz_H} {t t' : cS} {o : kY} (hR : kR h t s) (hf : cf_185_65 N X rk x2 x3 t = some (t', o)) (k : (∀ h', kR h' t' s → kE o Q h')) : zz_J zp_P zt_tf zt_fd X d zm_185 65 [(0, .ref 2), (2, .int x2), (3, .int x3)] [] h Q := by
  unfold cf_185_65 at hf
  obtain ⟨d', rfl⟩ : ∃ d', d = d' + 1 := ⟨d - 1, by omega⟩
  refine cb_185_65 hR  (fun {h} hR => ?_)
  rcases ko_call_ok hf with ⟨g1, v1, er, hf⟩ | ⟨g1, er, hq⟩
  · obtain ⟨y, hv, hf2⟩ := co_i_ok hf
    clear hf
    have hf := hf2
    clear hf2
    subst hv
    refine cr_195 (by omega) hR er (fun h hR => ?_)
    exact cr_185_69 hrk hB hd hR hf k
  · refine cr_195 (by omega) hR er (fun h hR => ?_)
    exact ko_thrown hq hR k
def cf_185_57 (N : Nat) (X : Nat → Option zz_C) (rk : Nat → List Value → cS → kO) (x2 : Int32) (y0 : Int32) (t : cS) : kO := ko_call 5 (cf_200 N X (zz_out + 11) t) (fun g1 v1 => co_v v1 (cf_185_65 N X rk x2 y0 g1))
theorem cr_185_57 {X : Nat → Option zz_C} {s : mS} {N : Nat} {rk : Nat → List Value → cS → kO} {D : Nat} (hrk : cK1 X s D rk) (hB : 162 ≤ D) {d : Nat} (hd : D + 1 ≤ d) {Q : zz_O → zz_H → Prop} {x2 : Int32} {y0 : Int32} {h : zz_H} {t t' : cS} {o : kY} (hR : kR h t s) (hf : cf_185_57 N X rk x2 y0 t = some (t', o)) (k : (∀ h', kR h' t' s → kE o Q h')) : zz_J zp_P zt_tf zt_fd X d zm_185 57 [(0, .ref 2), (2, .int x2)] [.int y0] h Q := by
  unfold cf_185_57 at hf
  obtain ⟨d', rfl⟩ : ∃ d', d = d' + 1 := ⟨d - 1, by omega⟩
  refine cb_185_57 hR  (fun {h} hR => ?_)
  rcases ko_call_ok hf with ⟨g1, v1, er, hf⟩ | ⟨g1, er, hq⟩
  · obtain ⟨hv, hf2⟩ := co_v_ok hf
    clear hf
    have hf := hf2
    clear hf2
    subst hv
    refine cr_200 (by omega) hR er (fun h hR => ?_)
    exact cr_185_65 hrk hB hd hR hf k
  · refine cr_200 (by omega) hR er (fun h hR => ?_)
    exact ko_thrown hq hR k
def cf_185_50 (N : Nat) (X : Nat → Option zz_C) (rk : Nat → List Value → cS → kO) (x2 : Int32) (t : cS) : kO := ko_call 10 (cf_243 N X  t) (fun g1 v1 => co_i v1 (fun y => cf_185_57 N X rk x2 y g1))
theorem cr_185_50 {X : Nat → Option zz_C} {s : mS} {N : Nat} {rk : Nat → List Value → cS → kO} {D : Nat} (hrk : cK1 X s D rk) (hB : 162 ≤ D) {d : Nat} (hd : D + 1 ≤ d) {Q : zz_O → zz_H → Prop} {x2 : Int32} {h : zz_H} {t t' : cS} {o : kY} (hR : kR h t s) (hf : cf_185_50 N X rk x2 t = some (t', o)) (k : (∀ h', kR h' t' s → kE o Q h')) : zz_J zp_P zt_tf zt_fd X d zm_185 50 [(0, .ref 2), (2, .int x2)] [] h Q := by
  unfold cf_185_50 at hf
  obtain ⟨d', rfl⟩ : ∃ d', d = d' + 1 := ⟨d - 1, by omega⟩
  refine cb_185_50 hR  (fun {h} hR => ?_)
  rcases ko_call_ok hf with ⟨g1, v1, er, hf⟩ | ⟨g1, er, hq⟩
  · obtain ⟨y, hv, hf2⟩ := co_i_ok hf
    clear hf
    have hf := hf2
    clear hf2
    subst hv
    refine cr_243 (by omega) hR er (fun h hR => ?_)
    exact cr_185_57 hrk hB hd hR hf k
  · refine cr_243 (by omega) hR er (fun h hR => ?_)
    exact ko_thrown hq hR k
def cf_185_47 (N : Nat) (X : Nat → Option zz_C) (rk : Nat → List Value → cS → kO) (x2 : Int32) (y0 : Nat) (y1 : Int32) (y2 : Int32) (t : cS) : kO := if y0 = 12 ∨ y0 = 21 then (ko_call 6 (cf_210 N X y0 y1 y2 t) (fun g1 v1 => co_v v1 (cf_185_50 N X rk x2 g1))) else none
theorem cr_185_47 {X : Nat → Option zz_C} {s : mS} {N : Nat} {rk : Nat → List Value → cS → kO} {D : Nat} (hrk : cK1 X s D rk) (hB : 162 ≤ D) {d : Nat} (hd : D + 1 ≤ d) {Q : zz_O → zz_H → Prop} {x2 : Int32} {y0 : Nat} {y1 : Int32} {y2 : Int32} {h : zz_H} {t t' : cS} {o : kY} (hR : kR h t s) (hf : cf_185_47 N X rk x2 y0 y1 y2 t = some (t', o)) (k : (∀ h', kR h' t' s → kE o Q h')) : zz_J zp_P zt_tf zt_fd X d zm_185 47 [(0, .ref 2), (2, .int x2)] [.int y2, .int y1, .ref y0] h Q := by
  unfold cf_185_47 at hf
  obtain ⟨e0, hf⟩ := ko_if hf
  obtain ⟨d', rfl⟩ : ∃ d', d = d' + 1 := ⟨d - 1, by omega⟩
  refine cb_185_47 hR e0 (fun {h} hR => ?_)
  rcases ko_call_ok hf with ⟨g1, v1, er, hf⟩ | ⟨g1, er, hq⟩
  · obtain ⟨hv, hf2⟩ := co_v_ok hf
    clear hf
    have hf := hf2
    clear hf2
    subst hv
    refine cr_210 (by omega) hR er (fun h hR => ?_)
    exact cr_185_50 hrk hB hd hR hf k
  · refine cr_210 (by omega) hR er (fun h hR => ?_)
    exact ko_thrown hq hR k
def cf_185_34 (N : Nat) (X : Nat → Option zz_C) (rk : Nat → List Value → cS → kO) (x1 : Int32) (y0 : Int32) (t : cS) : kO := co_b ((kP t 2 1)) (fun w0 => co_b ((kP t 2 1)) (fun w1 => if w1 = 12 ∨ w1 = 21 then (ko_call 6 (cf_203 N X w1 t) (fun g1 v1 => co_i v1 (fun y => cf_185_47 N X rk y0 w0 x1 y g1))) else none))
theorem cr_185_34 {X : Nat → Option zz_C} {s : mS} {N : Nat} {rk : Nat → List Value → cS → kO} {D : Nat} (hrk : cK1 X s D rk) (hB : 162 ≤ D) {d : Nat} (hd : D + 1 ≤ d) {Q : zz_O → zz_H → Prop} {x1 : Int32} {y0 : Int32} {h : zz_H} {t t' : cS} {o : kY} (hR : kR h t s) (hf : cf_185_34 N X rk x1 y0 t = some (t', o)) (k : (∀ h', kR h' t' s → kE o Q h')) : zz_J zp_P zt_tf zt_fd X d zm_185 34 [(0, .ref 2), (1, .int x1)] [.int y0] h Q := by
  unfold cf_185_34 at hf
  obtain ⟨w0, e0, hf⟩ := co_b_ok hf
  obtain ⟨w1, e1, hf⟩ := co_b_ok hf
  obtain ⟨e2, hf⟩ := ko_if hf
  obtain ⟨d', rfl⟩ : ∃ d', d = d' + 1 := ⟨d - 1, by omega⟩
  refine cb_185_34 hR e0 e1 e2 (fun {h} hR => ?_)
  rcases ko_call_ok hf with ⟨g1, v1, er, hf⟩ | ⟨g1, er, hq⟩
  · obtain ⟨y, hv, hf2⟩ := co_i_ok hf
    clear hf
    have hf := hf2
    clear hf2
    subst hv
    refine cr_203 (by omega) hR er (fun h hR => ?_)
    exact cr_185_47 hrk hB hd hR hf k
  · refine cr_203 (by omega) hR er (fun h hR => ?_)
    exact ko_thrown hq hR k
def cf_185_23 (N : Nat) (X : Nat → Option zz_C) (rk : Nat → List Value → cS → kO) (x1 : Int32) (t : cS) : kO := co_b ((kP t 2 1)) (fun w0 => if w0 = 12 ∨ w0 = 21 then (ko_call 6 (cf_209 N X w0 11 0 0 t) (fun g1 v1 => co_i v1 (fun y => cf_185_34 N X rk x1 y g1))) else none)
theorem cr_185_23 {X : Nat → Option zz_C} {s : mS} {N : Nat} {rk : Nat → List Value → cS → kO} {D : Nat} (hrk : cK1 X s D rk) (hB : 162 ≤ D) {d : Nat} (hd : D + 1 ≤ d) {Q : zz_O → zz_H → Prop} {x1 : Int32} {h : zz_H} {t t' : cS} {o : kY} (hR : kR h t s) (hf : cf_185_23 N X rk x1 t = some (t', o)) (k : (∀ h', kR h' t' s → kE o Q h')) : zz_J zp_P zt_tf zt_fd X d zm_185 23 [(0, .ref 2), (1, .int x1)] [] h Q := by
  unfold cf_185_23 at hf
  obtain ⟨w0, e0, hf⟩ := co_b_ok hf
  obtain ⟨e1, hf⟩ := ko_if hf
  obtain ⟨d', rfl⟩ : ∃ d', d = d' + 1 := ⟨d - 1, by omega⟩
  refine cb_185_23 hR e0 e1 (fun {h} hR => ?_)
  rcases ko_call_ok hf with ⟨g1, v1, er, hf⟩ | ⟨g1, er, hq⟩
  · obtain ⟨y, hv, hf2⟩ := co_i_ok hf
    clear hf
    have hf := hf2
    clear hf2
    subst hv
    refine cr_209 (by omega) hR er (fun h hR => ?_)
    exact cr_185_34 hrk hB hd hR hf k
  · refine cr_209 (by omega) hR er (fun h hR => ?_)
    exact ko_thrown hq hR k
def cf_185_18 (N : Nat) (X : Nat → Option zz_C) (rk : Nat → List Value → cS → kO) (y0 : Int32) (t : cS) : kO := ko_call 5 (rk 176 [] t) (fun g1 v1 => co_v v1 (cf_185_23 N X rk y0 g1))
theorem cr_185_18 {X : Nat → Option zz_C} {s : mS} {N : Nat} {rk : Nat → List Value → cS → kO} {D : Nat} (hrk : cK1 X s D rk) (hB : 162 ≤ D) {d : Nat} (hd : D + 1 ≤ d) {Q : zz_O → zz_H → Prop} {y0 : Int32} {h : zz_H} {t t' : cS} {o : kY} (hR : kR h t s) (hf : cf_185_18 N X rk y0 t = some (t', o)) (k : (∀ h', kR h' t' s → kE o Q h')) : zz_J zp_P zt_tf zt_fd X d zm_185 18 [(0, .ref 2)] [.int y0] h Q := by
  unfold cf_185_18 at hf
  obtain ⟨d', rfl⟩ : ∃ d', d = d' + 1 := ⟨d - 1, by omega⟩
  refine cb_185_18 hR  (fun {h} hR => ?_)
  rcases ko_call_ok hf with ⟨g1, v1, er, hf⟩ | ⟨g1, er, hq⟩
  · obtain ⟨hv, hf2⟩ := co_v_ok hf
    clear hf
    have hf := hf2
    clear hf2
    subst hv
    refine hrk.1 (by omega) hR er (fun h hR => ?_)
    exact cr_185_23 hrk hB hd hR hf k
  · refine hrk.1 (by omega) hR er (fun h hR => ?_)
    exact ko_thrown hq hR k
def cf_185_7 (N : Nat) (X : Nat → Option zz_C) (rk : Nat → List Value → cS → kO)  (t : cS) : kO := co_b ((kP t 2 1)) (fun w0 => if w0 = 12 ∨ w0 = 21 then (ko_call 6 (cf_209 N X w0 10 0 0 t) (fun g1 v1 => co_i v1 (fun y => cf_185_18 N X rk y g1))) else none)
theorem cr_185_7 {X : Nat → Option zz_C} {s : mS} {N : Nat} {rk : Nat → List Value → cS → kO} {D : Nat} (hrk : cK1 X s D rk) (hB : 162 ≤ D) {d : Nat} (hd : D + 1 ≤ d) {Q : zz_O → zz_H → Prop}  {h : zz_H} {t t' : cS} {o : kY} (hR : kR h t s) (hf : cf_185_7 N X rk  t = some (t', o)) (k : (∀ h', kR h' t' s → kE o Q h')) : zz_J zp_P zt_tf zt_fd X d zm_185 7 [(0, .ref 2)] [] h Q := by
  unfold cf_185_7 at hf
  obtain ⟨w0, e0, hf⟩ := co_b_ok hf
  obtain ⟨e1, hf⟩ := ko_if hf
  obtain ⟨d', rfl⟩ : ∃ d', d = d' + 1 := ⟨d - 1, by omega⟩
  refine cb_185_7 hR e0 e1 (fun {h} hR => ?_)
  rcases ko_call_ok hf with ⟨g1, v1, er, hf⟩ | ⟨g1, er, hq⟩
  · obtain ⟨y, hv, hf2⟩ := co_i_ok hf
    clear hf
    have hf := hf2
    clear hf2
    subst hv
    refine cr_209 (by omega) hR er (fun h hR => ?_)
    exact cr_185_18 hrk hB hd hR hf k
  · refine cr_209 (by omega) hR er (fun h hR => ?_)
    exact ko_thrown hq hR k
def cf_185_0 (N : Nat) (X : Nat → Option zz_C) (rk : Nat → List Value → cS → kO)  (t : cS) : kO := ko_call 10 (cf_46 N X  t) (fun g1 v1 => co_v v1 (cf_185_7 N X rk  g1))
theorem cr_185_0 {X : Nat → Option zz_C} {s : mS} {N : Nat} {rk : Nat → List Value → cS → kO} {D : Nat} (hrk : cK1 X s D rk) (hB : 162 ≤ D) {d : Nat} (hd : D + 1 ≤ d) {Q : zz_O → zz_H → Prop}  {h : zz_H} {t t' : cS} {o : kY} (hR : kR h t s) (hf : cf_185_0 N X rk  t = some (t', o)) (k : (∀ h', kR h' t' s → kE o Q h')) : zz_J zp_P zt_tf zt_fd X d zm_185 0 [(0, .ref 2)] [] h Q := by
  unfold cf_185_0 at hf
  obtain ⟨d', rfl⟩ : ∃ d', d = d' + 1 := ⟨d - 1, by omega⟩
  refine cb_185_0 hR  (fun {h} hR => ?_)
  rcases ko_call_ok hf with ⟨g1, v1, er, hf⟩ | ⟨g1, er, hq⟩
  · obtain ⟨hv, hf2⟩ := co_v_ok hf
    clear hf
    have hf := hf2
    clear hf2
    subst hv
    refine cr_46 (by omega) hR er (fun h hR => ?_)
    exact cr_185_7 hrk hB hd hR hf k
  · refine cr_46 (by omega) hR er (fun h hR => ?_)
    exact ko_thrown hq hR k
/-- tryStatement -/
def cf_185 (N : Nat) (X : Nat → Option zz_C) (rk : Nat → List Value → cS → kO)  (t : cS) : kO := cf_185_0 N X rk  t
theorem cr_185 {X : Nat → Option zz_C} {s : mS} {N : Nat} {rk : Nat → List Value → cS → kO} {D : Nat} (hrk : cK1 X s D rk) (hB : 162 ≤ D) {d : Nat} (hd : D + 1 ≤ d) {Q : zz_O → zz_H → Prop}  {h : zz_H} {t t' : cS} {o : kY} (hR : kR h t s) (hf : cf_185 N X rk  t = some (t', o)) (k : ∀ h', kR h' t' s → kE o Q h') : zz_J zp_P zt_tf zt_fd X d zm_185 0 [(0, .ref 2)] [] h Q := by
  unfold cf_185 at hf
  exact zz_J.weak (cr_185_0 hrk hB hd hR hf k) rfl ⟨rfl, trivial⟩
def cf_S1 (N : Nat) (X : Nat → Option zz_C) : Nat → Nat → List Value → cS → kO
  | 0, _, _, _ => none
  | n + 1, id, as, t => if id = 176 then (match as with
    | [] => cf_176 N X (cf_S1 N X n)  t
    | _ => none) else if id = 177 then (match as with
    | [] => cf_177 N X (cf_S1 N X n)  t
    | _ => none) else if id = 181 then (match as with
    | [.int x1] => cf_181 N X (cf_S1 N X n) x1 t
    | _ => none) else if id = 182 then (match as with
    | [.int x1] => cf_182 N X (cf_S1 N X n) x1 t
    | _ => none) else if id = 184 then (match as with
    | [.int x1] => cf_184 N X (cf_S1 N X n) x1 t
    | _ => none) else if id = 185 then (match as with
    | [] => cf_185 N X (cf_S1 N X n)  t
    | _ => none) else none
theorem cr_S1 {X : Nat → Option zz_C} {s : mS} {N : Nat} : ∀ n : Nat, cK1 X s (162 + n) (cf_S1 N X n) := by
  intro n
  induction n with
  | zero =>
    refine ⟨?_, ?_, ?_, ?_, ?_, ?_⟩
    · intro d _ Q  h t t' o _ hf _
      cases hf
    · intro d _ Q  h t t' o _ hf _
      cases hf
    · intro d _ Q _ h t t' o _ hf _
      cases hf
    · intro d _ Q _ h t t' o _ hf _
      cases hf
    · intro d _ Q _ h t t' o _ hf _
      cases hf
    · intro d _ Q  h t t' o _ hf _
      cases hf
  | succ n ih =>
    refine ⟨?_, ?_, ?_, ?_, ?_, ?_⟩
    · intro d hd Q  h t t' o hR hf k
      unfold cf_S1 at hf
      rw [if_pos rfl] at hf
      exact cr_176 (D := 162 + n) ih (Nat.le_add_right _ _) (by omega) hR hf k
    · intro d hd Q  h t t' o hR hf k
      unfold cf_S1 at hf
      rw [if_neg (by decide)] at hf
      rw [if_pos rfl] at hf
      exact cr_177 (D := 162 + n) ih (Nat.le_add_right _ _) (by omega) hR hf k
    · intro d hd Q _ h t t' o hR hf k
      unfold cf_S1 at hf
      rw [if_neg (by decide)] at hf
      rw [if_neg (by decide)] at hf
      rw [if_pos rfl] at hf
      exact cr_181 (D := 162 + n) ih (Nat.le_add_right _ _) (by omega) hR hf k
    · intro d hd Q _ h t t' o hR hf k
      unfold cf_S1 at hf
      rw [if_neg (by decide)] at hf
      rw [if_neg (by decide)] at hf
      rw [if_neg (by decide)] at hf
      rw [if_pos rfl] at hf
      exact cr_182 (D := 162 + n) ih (Nat.le_add_right _ _) (by omega) hR hf k
    · intro d hd Q _ h t t' o hR hf k
      unfold cf_S1 at hf
      rw [if_neg (by decide)] at hf
      rw [if_neg (by decide)] at hf
      rw [if_neg (by decide)] at hf
      rw [if_neg (by decide)] at hf
      rw [if_pos rfl] at hf
      exact cr_184 (D := 162 + n) ih (Nat.le_add_right _ _) (by omega) hR hf k
    · intro d hd Q  h t t' o hR hf k
      unfold cf_S1 at hf
      rw [if_neg (by decide)] at hf
      rw [if_neg (by decide)] at hf
      rw [if_neg (by decide)] at hf
      rw [if_neg (by decide)] at hf
      rw [if_neg (by decide)] at hf
      rw [if_pos rfl] at hf
      exact cr_185 (D := 162 + n) ih (Nat.le_add_right _ _) (by omega) hR hf k
