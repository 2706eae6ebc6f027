/-! yX7_bare (I)V -/
theorem cb_214_0 {X : Nat → Option zz_C} {h : zz_H} {t : cS} {s : mS} {d : Nat} {Q : zz_O → zz_H → Prop} {x0 : Nat} {x1 : Int32} (hR : kR h t s) (e0 : kH t x0 = true) (e1 : ¬ (x1 < 0 ∨ (kA t (2000000 + 20 * x0 + 10)).1 ≤ (Int32.toNatClampNeg x1))) (k : ∀ {h : zz_H}, kR h (jA t (2000000 + 20 * x0 + 10) (upd (kA t (2000000 + 20 * x0 + 10)).2 (Int32.toNatClampNeg x1) 0)) s → Q (.inl none) h) : zz_J zp_P zt_tf zt_fd X d zm_214 0 [(0, .ref x0), (1, .int x1)] [] h Q := by
  refine zz_J.n 1 rfl rfl rfl ?_
  refine zz_J.g 4 rfl (hR.gvS (v := .ref (kD t (2000000 + 20 * x0 + 10))) e0 rfl) rfl ?_
  refine zz_J.n 5 rfl rfl rfl ?_
  refine zz_J.c 6 (.int 0) rfl rfl rfl rfl ?_
  obtain ⟨h1, eq1, hR⟩ := hR.si (x := (0 : Int32)) (ka_S10 e0) rfl e1
  refine zz_J.si 7 rfl eq1 rfl ?_
  clear eq1
  refine zz_J.ret rfl rfl rfl ?_
  exact k hR
def cf_214_0 (N : Nat) (X : Nat → Option zz_C) (x0 : Nat) (x1 : Int32) (t : cS) : kO := if kH t x0 = true then (if ¬ (x1 < 0 ∨ (kA t (2000000 + 20 * x0 + 10)).1 ≤ (Int32.toNatClampNeg x1)) then (some ((jA t (2000000 + 20 * x0 + 10) (upd (kA t (2000000 + 20 * x0 + 10)).2 (Int32.toNatClampNeg x1) 0)), .inl none)) else none) else none
theorem cr_214_0 {X : Nat → Option zz_C} {s : mS} {N : Nat} {d : Nat} (hd : 0 ≤ d) {Q : zz_O → zz_H → Prop} {x0 : Nat} {x1 : Int32} {h : zz_H} {t t' : cS} {o : kY} (hR : kR h t s) (hf : cf_214_0 N X x0 x1 t = some (t', o)) (k : (∀ h', kR h' t' s → kE o Q h')) : zz_J zp_P zt_tf zt_fd X d zm_214 0 [(0, .ref x0), (1, .int x1)] [] h Q := by
  unfold cf_214_0 at hf
  obtain ⟨e0, hf⟩ := ko_if hf
  obtain ⟨e1, hf⟩ := ko_if hf
  cases hf
  exact cb_214_0 hR e0 e1 (fun {h} hR => k h hR)
/-- bare -/
def cf_214 (N : Nat) (X : Nat → Option zz_C) (x0 : Nat) (x1 : Int32) (t : cS) : kO := cf_214_0 N X x0 x1 t
theorem cr_214 {X : Nat → Option zz_C} {s : mS} {N : Nat} {d : Nat} (hd : 0 ≤ d) {Q : zz_O → zz_H → Prop} {x0 : Nat} {x1 : Int32} {h : zz_H} {t t' : cS} {o : kY} (hR : kR h t s) (hf : cf_214 N X x0 x1 t = some (t', o)) (k : ∀ h', kR h' t' s → kE o Q h') : zz_J zp_P zt_tf zt_fd X d zm_214 0 [(0, .ref x0), (1, .int x1)] [] h Q := by
  unfold cf_214 at hf
  exact zz_J.weak (cr_214_0 hd hR hf k) rfl ⟨rfl, rfl, trivial⟩
/-! yX12_clear (I)Z -/
theorem cb_13_0 {X : Nat → Option zz_C} {h : zz_H} {t : cS} {s : mS} {d : Nat} {Q : zz_O → zz_H → Prop} {x1 : Int32} (hR : kR h t s) (k : ∀ {h : zz_H}, kR h t s → zz_J zp_P zt_tf zt_fd X d zm_21 0 [(0, .int x1)] [] h (zz_after 0 Q (fun v h' => zz_J zp_P zt_tf zt_fd X (d + 1) zm_13 4 [(0, .ref 0), (1, .int x1)] (v.toList ++ []) h' Q))) : zz_J zp_P zt_tf zt_fd X (d + 1) zm_13 0 [(0, .ref 0), (1, .int x1)] [] h Q := by
  refine zz_J.n 1 rfl rfl rfl ?_
  refine zz_J.cl (M' := zm_21) 4 rfl rfl (by decide) rfl rfl ⟨rfl, Nat.le_of_ble_eq_true rfl⟩ rfl ?_
  refine zz_J.mono (k hR) ?_
  intro o h' hE
  cases o with
  | inl v => exact zz_J.weak hE rfl ⟨rfl, rfl, trivial⟩
  | inr q => exact hE
theorem cb_13_4 {X : Nat → Option zz_C} {h : zz_H} {t : cS} {s : mS} {d : Nat} {Q : zz_O → zz_H → Prop} {x1 : Int32} {y0 : Int32} (hR : kR h t s) (k1 : y0 = 0 → (∀ {h : zz_H}, kR h t s → zz_J zp_P zt_tf zt_fd X d zm_13 19 [] [] h Q)) (k2 : ¬ y0 = 0 → (∀ {h : zz_H}, kR h t s → zz_J zp_P zt_tf zt_fd X d zm_13 7 [(0, .ref 0), (1, .int x1)] [] h Q)) : zz_J zp_P zt_tf zt_fd X d zm_13 4 [(0, .ref 0), (1, .int x1)] [.int y0] h Q := by
  refine zz_J.b1 19 7 (A := y0 = 0) rfl rfl (by decide) rfl rfl (fun c => ?_) (fun c => ?_)
  · exact zz_J.weak (k1 c hR) rfl trivial
  · exact zz_J.weak (k2 c hR) rfl ⟨rfl, rfl, trivial⟩
theorem cb_13_7 {X : Nat → Option zz_C} {h : zz_H} {t : cS} {s : mS} {d : Nat} {Q : zz_O → zz_H → Prop} {x1 : Int32} (hR : kR h t s) {w0 : Nat} (e0 : (kP t 0 7) = some w0) (e1 : kH t w0 = true) (k : ∀ {h : zz_H}, kR h t s → zz_J zp_P zt_tf zt_fd X d zm_23 0 [(0, .ref w0), (1, .int x1)] [] h (zz_after 7 Q (fun v h' => zz_J zp_P zt_tf zt_fd X (d + 1) zm_13 15 [(0, .ref 0), (1, .int x1)] (v.toList ++ []) h' Q))) : zz_J zp_P zt_tf zt_fd X (d + 1) zm_13 7 [(0, .ref 0), (1, .int x1)] [] h Q := by
  refine zz_J.n 8 rfl rfl rfl ?_
  refine zz_J.g 11 rfl (hR.gv (v := .ref w0) ko_0 (by decide) ((congrArg (fun q => some (zz_rv q)) e0).trans rfl)) rfl ?_
  refine zz_J.n 12 rfl rfl rfl ?_
  refine zz_J.cv 15 (as := []) rfl rfl (hR.clS e1 (by decide)) (by decide) (Nat.le_of_ble_eq_true rfl) (Nat.le_of_ble_eq_true rfl) rfl (Nat.le_of_ble_eq_true rfl) rfl ?_
  refine zz_J.mono (k hR) ?_
  intro o h' hE
  cases o with
  | inl v => exact zz_J.weak hE rfl ⟨rfl, rfl, trivial⟩
  | inr q => exact hE
theorem cb_13_15 {X : Nat → Option zz_C} {h : zz_H} {t : cS} {s : mS} {d : Nat} {Q : zz_O → zz_H → Prop} {x1 : Int32} {y0 : Int32} (hR : kR h t s) (k1 : ¬ y0 = (-1) → (∀ {h : zz_H}, kR h t s → zz_J zp_P zt_tf zt_fd X d zm_13 21 [(0, .ref 0), (1, .int x1)] [] h Q)) (k2 : ¬ ¬ y0 = (-1) → (∀ {h : zz_H}, kR h t s → zz_J zp_P zt_tf zt_fd X d zm_13 19 [] [] h Q)) : zz_J zp_P zt_tf zt_fd X d zm_13 15 [(0, .ref 0), (1, .int x1)] [.int y0] h Q := by
  refine zz_J.c 16 (.int (-1)) rfl rfl rfl rfl ?_
  refine zz_J.b2 21 19 (A := ¬ y0 = (-1)) rfl (zz_cond_ne _ _) (by decide) rfl rfl (fun c => ?_) (fun c => ?_)
  · exact zz_J.weak (k1 c hR) rfl ⟨rfl, rfl, trivial⟩
  · exact zz_J.weak (k2 c hR) rfl trivial
theorem cb_13_19 {X : Nat → Option zz_C} {h : zz_H} {t : cS} {s : mS} {d : Nat} {Q : zz_O → zz_H → Prop}  (hR : kR h t s) (k : ∀ {h : zz_H}, kR h t s → Q (.inl (some (.int 0))) h) : zz_J zp_P zt_tf zt_fd X d zm_13 19 [] [] h Q := by
  refine zz_J.c 20 (.int 0) rfl rfl rfl rfl ?_
  refine zz_J.ret rfl rfl rfl ?_
  exact k hR
theorem cb_13_21 {X : Nat → Option zz_C} {h : zz_H} {t : cS} {s : mS} {d : Nat} {Q : zz_O → zz_H → Prop} {x1 : Int32} (hR : kR h t s) {w0 : Nat} (e0 : (kP t 0 7) = some w0) (e1 : kH t w0 = true) (k : ∀ {h : zz_H}, kR h t s → zz_J zp_P zt_tf zt_fd X d zm_214 0 [(0, .ref w0), (1, .int x1)] [] h (zz_after 7 Q (fun v h' => zz_J zp_P zt_tf zt_fd X (d + 1) zm_13 29 [] (v.toList ++ []) h' Q))) : zz_J zp_P zt_tf zt_fd X (d + 1) zm_13 21 [(0, .ref 0), (1, .int x1)] [] h Q := by
  refine zz_J.n 22 rfl rfl rfl ?_
  refine zz_J.g 25 rfl (hR.gv (v := .ref w0) ko_0 (by decide) ((congrArg (fun q => some (zz_rv q)) e0).trans rfl)) rfl ?_
  refine zz_J.n 26 rfl rfl rfl ?_
  refine zz_J.cv 29 (as := []) rfl rfl (hR.clS e1 (by decide)) (by decide) (Nat.le_of_ble_eq_true rfl) (Nat.le_of_ble_eq_true rfl) rfl (Nat.le_of_ble_eq_true rfl) rfl ?_
  refine zz_J.mono (k hR) ?_
  intro o h' hE
  cases o with
  | inl v => exact zz_J.weak hE rfl trivial
  | inr q => exact hE
theorem cb_13_29 {X : Nat → Option zz_C} {h : zz_H} {t : cS} {s : mS} {d : Nat} {Q : zz_O → zz_H → Prop}  (hR : kR h t s) (k : ∀ {h : zz_H}, kR h t s → Q (.inl (some (.int 1))) h) : zz_J zp_P zt_tf zt_fd X d zm_13 29 [] [] h Q := by
  refine zz_J.c 30 (.int 1) rfl rfl rfl rfl ?_
  refine zz_J.ret rfl rfl rfl ?_
  exact k hR
def cf_13_19 (N : Nat) (X : Nat → Option zz_C)  (t : cS) : kO := some (t, .inl (some (.int 0)))
theorem cr_13_19 {X : Nat → Option zz_C} {s : mS} {N : Nat} {d : Nat} (hd : 1 ≤ d) {Q : zz_O → zz_H → Prop}  {h : zz_H} {t t' : cS} {o : kY} (hR : kR h t s) (hf : cf_13_19 N X  t = some (t', o)) (k : (∀ h', kR h' t' s → kE o Q h')) : zz_J zp_P zt_tf zt_fd X d zm_13 19 [] [] h Q := by
  unfold cf_13_19 at hf
  cases hf
  exact cb_13_19 hR  (fun {h} hR => k h hR)
def cf_13_29 (N : Nat) (X : Nat → Option zz_C)  (t : cS) : kO := some (t, .inl (some (.int 1)))
theorem cr_13_29 {X : Nat → Option zz_C} {s : mS} {N : Nat} {d : Nat} (hd : 1 ≤ d) {Q : zz_O → zz_H → Prop}  {h : zz_H} {t t' : cS} {o : kY} (hR : kR h t s) (hf : cf_13_29 N X  t = some (t', o)) (k : (∀ h', kR h' t' s → kE o Q h')) : zz_J zp_P zt_tf zt_fd X d zm_13 29 [] [] h Q := by
  unfold cf_13_29 at hf
  cases hf
  exact cb_13_29 hR  (fun {h} hR => k h hR)
def cf_13_21 (N : Nat) (X : Nat → Option zz_C) (x1 : Int32) (t : cS) : kO := co_b ((kP t 0 7)) (fun w0 => if kH t w0 = true then (ko_call 7 (cf_214 N X w0 x1 t) (fun g1 v1 => co_v v1 (cf_13_29 N X  g1))) else none)
theorem cr_13_21 {X : Nat → Option zz_C} {s : mS} {N : Nat} {d : Nat} (hd : 1 ≤ d) {Q : zz_O → zz_H → Prop} {x1 : Int32} {h : zz_H} {t t' : cS} {o : kY} (hR : kR h t s) (hf : cf_13_21 N X x1 t = some (t', o)) (k : (∀ h', kR h' t' s → kE o Q h')) : zz_J zp_P zt_tf zt_fd X d zm_13 21 [(0, .ref 0), (1, .int x1)] [] h Q := by
  unfold cf_13_21 at hf
  obtain ⟨w0, e0, hf⟩ := co_b_ok hf
  obtain ⟨e1, hf⟩ := ko_if hf
  obtain ⟨d', rfl⟩ : ∃ d', d = d' + 1 := ⟨d - 1, by omega⟩
  refine cb_13_21 hR e0 e1 (fun {h} hR => ?_)
  rcases ko_call_ok hf with ⟨g1, v1, er, hf⟩ | ⟨g1, er, hq⟩
  · obtain ⟨hv, hf2⟩ := co_v_ok hf
    clear hf
    have hf := hf2
    clear hf2
    subst hv
    refine cr_214 (by omega) hR er (fun h hR => ?_)
    exact cr_13_29 hd hR hf k
  · refine cr_214 (by omega) hR er (fun h hR => ?_)
    exact ko_thrown hq hR k
def cf_13_15 (N : Nat) (X : Nat → Option zz_C) (x1 : Int32) (y0 : Int32) (t : cS) : kO := if ¬ y0 = (-1) then cf_13_21 N X x1 t else cf_13_19 N X  t
theorem cr_13_15 {X : Nat → Option zz_C} {s : mS} {N : Nat} {d : Nat} (hd : 1 ≤ d) {Q : zz_O → zz_H → Prop} {x1 : Int32} {y0 : Int32} {h : zz_H} {t t' : cS} {o : kY} (hR : kR h t s) (hf : cf_13_15 N X x1 y0 t = some (t', o)) (k : (∀ h', kR h' t' s → kE o Q h')) : zz_J zp_P zt_tf zt_fd X d zm_13 15 [(0, .ref 0), (1, .int x1)] [.int y0] h Q := by
  unfold cf_13_15 at hf
  refine cb_13_15 hR  (fun c {h} hR => ?_) (fun c {h} hR => ?_)
  · rw [if_pos c] at hf
    exact cr_13_21 hd hR hf k
  · rw [if_neg c] at hf
    exact cr_13_19 hd hR hf k
def cf_13_7 (N : Nat) (X : Nat → Option zz_C) (x1 : Int32) (t : cS) : kO := co_b ((kP t 0 7)) (fun w0 => if kH t w0 = true then (ko_call 7 (cf_23 N X w0 x1 t) (fun g1 v1 => co_i v1 (fun y => cf_13_15 N X x1 y g1))) else none)
theorem cr_13_7 {X : Nat → Option zz_C} {s : mS} {N : Nat} {d : Nat} (hd : 1 ≤ d) {Q : zz_O → zz_H → Prop} {x1 : Int32} {h : zz_H} {t t' : cS} {o : kY} (hR : kR h t s) (hf : cf_13_7 N X x1 t = some (t', o)) (k : (∀ h', kR h' t' s → kE o Q h')) : zz_J zp_P zt_tf zt_fd X d zm_13 7 [(0, .ref 0), (1, .int x1)] [] h Q := by
  unfold cf_13_7 at hf
  obtain ⟨w0, e0, hf⟩ := co_b_ok hf
  obtain ⟨e1, hf⟩ := ko_if hf
  obtain ⟨d', rfl⟩ : ∃ d', d = d' + 1 := ⟨d - 1, by omega⟩
  refine cb_13_7 hR e0 e1 (fun {h} hR => ?_)
  rcases ko_call_ok hf with ⟨g1, v1, er, hf⟩ | ⟨g1, er, hq⟩
  · obtain ⟨y, hv, hf2⟩ := co_i_ok hf
    clear hf
    have hf := hf2
    clear hf2
    subst hv
    refine cr_23 (by omega) hR er (fun h hR => ?_)
    exact cr_13_15 hd hR hf k
  · refine cr_23 (by omega) hR er (fun h hR => ?_)
    exact ko_thrown hq hR k
def cf_13_4 (N : Nat) (X : Nat → Option zz_C) (x1 : Int32) (y0 : Int32) (t : cS) : kO := if y0 = 0 then cf_13_19 N X  t else cf_13_7 N X x1 t
theorem cr_13_4 {X : Nat → Option zz_C} {s : mS} {N : Nat} {d : Nat} (hd : 1 ≤ d) {Q : zz_O → zz_H → Prop} {x1 : Int32} {y0 : Int32} {h : zz_H} {t t' : cS} {o : kY} (hR : kR h t s) (hf : cf_13_4 N X x1 y0 t = some (t', o)) (k : (∀ h', kR h' t' s → kE o Q h')) : zz_J zp_P zt_tf zt_fd X d zm_13 4 [(0, .ref 0), (1, .int x1)] [.int y0] h Q := by
  unfold cf_13_4 at hf
  refine cb_13_4 hR  (fun c {h} hR => ?_) (fun c {h} hR => ?_)
  · rw [if_pos c] at hf
    exact cr_13_19 hd hR hf k
  · rw [if_neg c] at hf
    exact cr_13_7 hd hR hf k
def cf_13_0 (N : Nat) (X : Nat → Option zz_C) (x1 : Int32) (t : cS) : kO := ko_call 0 (cf_21 N X x1 t) (fun g1 v1 => co_i v1 (fun y => cf_13_4 N X x1 y g1))
theorem cr_13_0 {X : Nat → Option zz_C} {s : mS} {N : Nat} {d : Nat} (hd : 1 ≤ d) {Q : zz_O → zz_H → Prop} {x1 : Int32} {h : zz_H} {t t' : cS} {o : kY} (hR : kR h t s) (hf : cf_13_0 N X x1 t = some (t', o)) (k : (∀ h', kR h' t' s → kE o Q h')) : zz_J zp_P zt_tf zt_fd X d zm_13 0 [(0, .ref 0), (1, .int x1)] [] h Q := by
  unfold cf_13_0 at hf
  obtain ⟨d', rfl⟩ : ∃ d', d = d' + 1 := ⟨d - 1, by omega⟩
  refine cb_13_0 hR  (fun {h} hR => ?_)
  rcases ko_call_ok hf with ⟨g1, v1, er, hf⟩ | ⟨g1, er, hq⟩
  · obtain ⟨y, hv, hf2⟩ := co_i_ok hf
    clear hf
    have hf := hf2
    clear hf2
    subst hv
    refine cr_21 (by omega) hR er (fun h hR => ?_)
    exact cr_13_4 hd hR hf k
  · refine cr_21 (by omega) hR er (fun h hR => ?_)
    exact ko_thrown hq hR k
/-- clear -/
def cf_13 (N : Nat) (X : Nat → Option zz_C) (x1 : Int32) (t : cS) : kO := cf_13_0 N X x1 t
theorem cr_13 {X : Nat → Option zz_C} {s : mS} {N : Nat} {d : Nat} (hd : 1 ≤ d) {Q : zz_O → zz_H → Prop} {x1 : Int32} {h : zz_H} {t t' : cS} {o : kY} (hR : kR h t s) (hf : cf_13 N X x1 t = some (t', o)) (k : ∀ h', kR h' t' s → kE o Q h') : zz_J zp_P zt_tf zt_fd X d zm_13 0 [(0, .ref 0), (1, .int x1)] [] h Q := by
  unfold cf_13 at hf
  exact zz_J.weak (cr_13_0 hd hR hf k) rfl ⟨rfl, rfl, trivial⟩
/-! yX12_kind (I)I -/
theorem cb_14_0 {X : Nat → Option zz_C} {h : zz_H} {t : cS} {s : mS} {d : Nat} {Q : zz_O → zz_H → Prop} {x1 : Int32} (hR : kR h t s) (k : ∀ {h : zz_H}, kR h t s → zz_J zp_P zt_tf zt_fd X d zm_21 0 [(0, .int x1)] [] h (zz_after 0 Q (fun v h' => zz_J zp_P zt_tf zt_fd X (d + 1) zm_14 4 [(0, .ref 0), (1, .int x1)] (v.toList ++ []) h' Q))) : zz_J zp_P zt_tf zt_fd X (d + 1) zm_14 0 [(0, .ref 0), (1, .int x1)] [] h Q := by
  refine zz_J.n 1 rfl rfl rfl ?_
  refine zz_J.cl (M' := zm_21) 4 rfl rfl (by decide) rfl rfl ⟨rfl, Nat.le_of_ble_eq_true rfl⟩ rfl ?_
  refine zz_J.mono (k hR) ?_
  intro o h' hE
  cases o with
  | inl v => exact zz_J.weak hE rfl ⟨rfl, rfl, trivial⟩
  | inr q => exact hE
theorem cb_14_4 {X : Nat → Option zz_C} {h : zz_H} {t : cS} {s : mS} {d : Nat} {Q : zz_O → zz_H → Prop} {x1 : Int32} {y0 : Int32} (hR : kR h t s) (k1 : y0 = 0 → (∀ {h : zz_H}, kR h t s → zz_J zp_P zt_tf zt_fd X d zm_14 18 [] [] h Q)) (k2 : ¬ y0 = 0 → (∀ {h : zz_H}, kR h t s → zz_J zp_P zt_tf zt_fd X d zm_14 7 [(0, .ref 0), (1, .int x1)] [] h Q)) : zz_J zp_P zt_tf zt_fd X d zm_14 4 [(0, .ref 0), (1, .int x1)] [.int y0] h Q := by
  refine zz_J.b1 18 7 (A := y0 = 0) rfl rfl (by decide) rfl rfl (fun c => ?_) (fun c => ?_)
  · exact zz_J.weak (k1 c hR) rfl trivial
  · exact zz_J.weak (k2 c hR) rfl ⟨rfl, rfl, trivial⟩
theorem cb_14_7 {X : Nat → Option zz_C} {h : zz_H} {t : cS} {s : mS} {d : Nat} {Q : zz_O → zz_H → Prop} {x1 : Int32} (hR : kR h t s) {w0 : Nat} (e0 : (kP t 0 7) = some w0) (e1 : kH t w0 = true) (k : ∀ {h : zz_H}, kR h t s → zz_J zp_P zt_tf zt_fd X d zm_23 0 [(0, .ref w0), (1, .int x1)] [] h (zz_after 7 Q (fun v h' => zz_J zp_P zt_tf zt_fd X (d + 1) zm_14 15 [] (v.toList ++ []) h' Q))) : zz_J zp_P zt_tf zt_fd X (d + 1) zm_14 7 [(0, .ref 0), (1, .int x1)] [] h Q := by
  refine zz_J.n 8 rfl rfl rfl ?_
  refine zz_J.g 11 rfl (hR.gv (v := .ref w0) ko_0 (by decide) ((congrArg (fun q => some (zz_rv q)) e0).trans rfl)) rfl ?_
  refine zz_J.n 12 rfl rfl rfl ?_
  refine zz_J.cv 15 (as := []) rfl rfl (hR.clS e1 (by decide)) (by decide) (Nat.le_of_ble_eq_true rfl) (Nat.le_of_ble_eq_true rfl) rfl (Nat.le_of_ble_eq_true rfl) rfl ?_
  refine zz_J.mono (k hR) ?_
  intro o h' hE
  cases o with
  | inl v => exact zz_J.weak hE rfl trivial
  | inr q => exact hE
theorem cb_14_15 {X : Nat → Option zz_C} {h : zz_H} {t : cS} {s : mS} {d : Nat} {Q : zz_O → zz_H → Prop} {y0 : Int32} (hR : kR h t s) (k : ∀ {h : zz_H}, kR h t s → zz_J zp_P zt_tf zt_fd X d zm_14 19 [] [.int y0] h Q) : zz_J zp_P zt_tf zt_fd X d zm_14 15 [] [.int y0] h Q := by
  refine zz_J.n 19 rfl rfl rfl ?_
  exact zz_J.weak (k hR) rfl trivial
theorem cb_14_18 {X : Nat → Option zz_C} {h : zz_H} {t : cS} {s : mS} {d : Nat} {Q : zz_O → zz_H → Prop}  (hR : kR h t s) (k : ∀ {h : zz_H}, kR h t s → zz_J zp_P zt_tf zt_fd X d zm_14 19 [] [.int (-1)] h Q) : zz_J zp_P zt_tf zt_fd X d zm_14 18 [] [] h Q := by
  refine zz_J.c 19 (.int (-1)) rfl rfl rfl rfl ?_
  exact zz_J.weak (k hR) rfl trivial
theorem cb_14_19 {X : Nat → Option zz_C} {h : zz_H} {t : cS} {s : mS} {d : Nat} {Q : zz_O → zz_H → Prop} {y0 : Int32} (hR : kR h t s) (k : ∀ {h : zz_H}, kR h t s → Q (.inl (some (.int y0))) h) : zz_J zp_P zt_tf zt_fd X d zm_14 19 [] [.int y0] h Q := by
  refine zz_J.ret rfl rfl rfl ?_
  exact k hR
def cf_14_19 (N : Nat) (X : Nat → Option zz_C) (y0 : Int32) (t : cS) : kO := some (t, .inl (some (.int y0)))
theorem cr_14_19 {X : Nat → Option zz_C} {s : mS} {N : Nat} {d : Nat} (hd : 1 ≤ d) {Q : zz_O → zz_H → Prop} {y0 : Int32} {h : zz_H} {t t' : cS} {o : kY} (hR : kR h t s) (hf : cf_14_19 N X y0 t = some (t', o)) (k : (∀ h', kR h' t' s → kE o Q h')) : zz_J zp_P zt_tf zt_fd X d zm_14 19 [] [.int y0] h Q := by
  unfold cf_14_19 at hf
  cases hf
  exact cb_14_19 hR  (fun {h} hR => k h hR)
def cf_14_18 (N : Nat) (X : Nat → Option zz_C)  (t : cS) : kO := cf_14_19 N X (-1) t
theorem cr_14_18 {X : Nat → Option zz_C} {s : mS} {N : Nat} {d : Nat} (hd : 1 ≤ d) {Q : zz_O → zz_H → Prop}  {h : zz_H} {t t' : cS} {o : kY} (hR : kR h t s) (hf : cf_14_18 N X  t = some (t', o)) (k : (∀ h', kR h' t' s → kE o Q h')) : zz_J zp_P zt_tf zt_fd X d zm_14 18 [] [] h Q := by
  unfold cf_14_18 at hf
  exact cb_14_18 hR  (fun hR => cr_14_19 hd hR hf k)
def cf_14_15 (N : Nat) (X : Nat → Option zz_C) (y0 : Int32) (t : cS) : kO := cf_14_19 N X y0 t
theorem cr_14_15 {X : Nat → Option zz_C} {s : mS} {N : Nat} {d : Nat} (hd : 1 ≤ d) {Q : zz_O → zz_H → Prop} {y0 : Int32} {h : zz_H} {t t' : cS} {o : kY} (hR : kR h t s) (hf : cf_14_15 N X y0 t = some (t', o)) (k : (∀ h', kR h' t' s → kE o Q h')) : zz_J zp_P zt_tf zt_fd X d zm_14 15 [] [.int y0] h Q := by
  unfold cf_14_15 at hf
  exact cb_14_15 hR  (fun hR => cr_14_19 hd hR hf k)
def cf_14_7 (N : Nat) (X : Nat → Option zz_C) (x1 : Int32) (t : cS) : kO := co_b ((kP t 0 7)) (fun w0 => if kH t w0 = true then (ko_call 7 (cf_23 N X w0 x1 t) (fun g1 v1 => co_i v1 (fun y => cf_14_15 N X y g1))) else none)
theorem cr_14_7 {X : Nat → Option zz_C} {s : mS} {N : Nat} {d : Nat} (hd : 1 ≤ d) {Q : zz_O → zz_H → Prop} {x1 : Int32} {h : zz_H} {t t' : cS} {o : kY} (hR : kR h t s) (hf : cf_14_7 N X x1 t = some (t', o)) (k : (∀ h', kR h' t' s → kE o Q h')) : zz_J zp_P zt_tf zt_fd X d zm_14 7 [(0, .ref 0), (1, .int x1)] [] h Q := by
  unfold cf_14_7 at hf
  obtain ⟨w0, e0, hf⟩ := co_b_ok hf
  obtain ⟨e1, hf⟩ := ko_if hf
  obtain ⟨d', rfl⟩ : ∃ d', d = d' + 1 := ⟨d - 1, by omega⟩
  refine cb_14_7 hR e0 e1 (fun {h} hR => ?_)
  rcases ko_call_ok hf with ⟨g1, v1, er, hf⟩ | ⟨g1, er, hq⟩
  · obtain ⟨y, hv, hf2⟩ := co_i_ok hf
    clear hf
    have hf := hf2
    clear hf2
    subst hv
    refine cr_23 (by omega) hR er (fun h hR => ?_)
    exact cr_14_15 hd hR hf k
  · refine cr_23 (by omega) hR er (fun h hR => ?_)
    exact ko_thrown hq hR k
def cf_14_4 (N : Nat) (X : Nat → Option zz_C) (x1 : Int32) (y0 : Int32) (t : cS) : kO := if y0 = 0 then cf_14_18 N X  t else cf_14_7 N X x1 t
theorem cr_14_4 {X : Nat → Option zz_C} {s : mS} {N : Nat} {d : Nat} (hd : 1 ≤ d) {Q : zz_O → zz_H → Prop} {x1 : Int32} {y0 : Int32} {h : zz_H} {t t' : cS} {o : kY} (hR : kR h t s) (hf : cf_14_4 N X x1 y0 t = some (t', o)) (k : (∀ h', kR h' t' s → kE o Q h')) : zz_J zp_P zt_tf zt_fd X d zm_14 4 [(0, .ref 0), (1, .int x1)] [.int y0] h Q := by
  unfold cf_14_4 at hf
  refine cb_14_4 hR  (fun c {h} hR => ?_) (fun c {h} hR => ?_)
  · rw [if_pos c] at hf
    exact cr_14_18 hd hR hf k
  · rw [if_neg c] at hf
    exact cr_14_7 hd hR hf k
def cf_14_0 (N : Nat) (X : Nat → Option zz_C) (x1 : Int32) (t : cS) : kO := ko_call 0 (cf_21 N X x1 t) (fun g1 v1 => co_i v1 (fun y => cf_14_4 N X x1 y g1))
theorem cr_14_0 {X : Nat → Option zz_C} {s : mS} {N : Nat} {d : Nat} (hd : 1 ≤ d) {Q : zz_O → zz_H → Prop} {x1 : Int32} {h : zz_H} {t t' : cS} {o : kY} (hR : kR h t s) (hf : cf_14_0 N X x1 t = some (t', o)) (k : (∀ h', kR h' t' s → kE o Q h')) : zz_J zp_P zt_tf zt_fd X d zm_14 0 [(0, .ref 0), (1, .int x1)] [] h Q := by
  unfold cf_14_0 at hf
  obtain ⟨d', rfl⟩ : ∃ d', d = d' + 1 := ⟨d - 1, by omega⟩
  refine cb_14_0 hR  (fun {h} hR => ?_)
  rcases ko_call_ok hf with ⟨g1, v1, er, hf⟩ | ⟨g1, er, hq⟩
  · obtain ⟨y, hv, hf2⟩ := co_i_ok hf
    clear hf
    have hf := hf2
    clear hf2
    subst hv
    refine cr_21 (by omega) hR er (fun h hR => ?_)
    exact cr_14_4 hd hR hf k
  · refine cr_21 (by omega) hR er (fun h hR => ?_)
    exact ko_thrown hq hR k
/-- kind -/
def cf_14 (N : Nat) (X : Nat → Option zz_C) (x1 : Int32) (t : cS) : kO := cf_14_0 N X x1 t
theorem cr_14 {X : Nat → Option zz_C} {s : mS} {N : Nat} {d : Nat} (hd : 1 ≤ d) {Q : zz_O → zz_H → Prop} {x1 : Int32} {h : zz_H} {t t' : cS} {o : kY} (hR : kR h t s) (hf : cf_14 N X x1 t = some (t', o)) (k : ∀ h', kR h' t' s → kE o Q h') : zz_J zp_P zt_tf zt_fd X d zm_14 0 [(0, .ref 0), (1, .int x1)] [] h Q := by
  unfold cf_14 at hf
  exact zz_J.weak (cr_14_0 hd hR hf k) rfl ⟨rfl, rfl, trivial⟩
/-! yX12_size (II)I -/
theorem cb_15_0 {X : Nat → Option zz_C} {h : zz_H} {t : cS} {s : mS} {d : Nat} {Q : zz_O → zz_H → Prop} {x1 : Int32} {x2 : Int32} (hR : kR h t s) (k : ∀ {h : zz_H}, kR h t s → zz_J zp_P zt_tf zt_fd X d zm_21 0 [(0, .int x1)] [] h (zz_after 0 Q (fun v h' => zz_J zp_P zt_tf zt_fd X (d + 1) zm_15 4 [(0, .ref 0), (1, .int x1), (2, .int x2)] (v.toList ++ []) h' Q))) : zz_J zp_P zt_tf zt_fd X (d + 1) zm_15 0 [(0, .ref 0), (1, .int x1), (2, .int x2)] [] h Q := by
  refine zz_J.n 1 rfl rfl rfl ?_
  refine zz_J.cl (M' := zm_21) 4 rfl rfl (by decide) rfl rfl ⟨rfl, Nat.le_of_ble_eq_true rfl⟩ rfl ?_
  refine zz_J.mono (k hR) ?_
  intro o h' hE
  cases o with
  | inl v => exact zz_J.weak hE rfl ⟨rfl, rfl, rfl, trivial⟩
  | inr q => exact hE
theorem cb_15_4 {X : Nat → Option zz_C} {h : zz_H} {t : cS} {s : mS} {d : Nat} {Q : zz_O → zz_H → Prop} {x1 : Int32} {x2 : Int32} {y0 : Int32} (hR : kR h t s) (k1 : y0 = 0 → (∀ {h : zz_H}, kR h t s → zz_J zp_P zt_tf zt_fd X d zm_15 19 [] [] h Q)) (k2 : ¬ y0 = 0 → (∀ {h : zz_H}, kR h t s → zz_J zp_P zt_tf zt_fd X d zm_15 7 [(0, .ref 0), (1, .int x1), (2, .int x2)] [] h Q)) : zz_J zp_P zt_tf zt_fd X d zm_15 4 [(0, .ref 0), (1, .int x1), (2, .int x2)] [.int y0] h Q := by
  refine zz_J.b1 19 7 (A := y0 = 0) rfl rfl (by decide) rfl rfl (fun c => ?_) (fun c => ?_)
  · exact zz_J.weak (k1 c hR) rfl trivial
  · exact zz_J.weak (k2 c hR) rfl ⟨rfl, rfl, rfl, trivial⟩
theorem cb_15_7 {X : Nat → Option zz_C} {h : zz_H} {t : cS} {s : mS} {d : Nat} {Q : zz_O → zz_H → Prop} {x1 : Int32} {x2 : Int32} (hR : kR h t s) {w0 : Nat} (e0 : (kP t 0 7) = some w0) (e1 : kH t w0 = true) (k : ∀ {h : zz_H}, kR h t s → zz_J zp_P zt_tf zt_fd X d zm_23 0 [(0, .ref w0), (1, .int x1)] [] h (zz_after 7 Q (fun v h' => zz_J zp_P zt_tf zt_fd X (d + 1) zm_15 15 [(0, .ref 0), (1, .int x1), (2, .int x2)] (v.toList ++ []) h' Q))) : zz_J zp_P zt_tf zt_fd X (d + 1) zm_15 7 [(0, .ref 0), (1, .int x1), (2, .int x2)] [] h Q := by
  refine zz_J.n 8 rfl rfl rfl ?_
  refine zz_J.g 11 rfl (hR.gv (v := .ref w0) ko_0 (by decide) ((congrArg (fun q => some (zz_rv q)) e0).trans rfl)) rfl ?_
  refine zz_J.n 12 rfl rfl rfl ?_
  refine zz_J.cv 15 (as := []) rfl rfl (hR.clS e1 (by decide)) (by decide) (Nat.le_of_ble_eq_true rfl) (Nat.le_of_ble_eq_true rfl) rfl (Nat.le_of_ble_eq_true rfl) rfl ?_
  refine zz_J.mono (k hR) ?_
  intro o h' hE
  cases o with
  | inl v => exact zz_J.weak hE rfl ⟨rfl, rfl, rfl, trivial⟩
  | inr q => exact hE
theorem cb_15_15 {X : Nat → Option zz_C} {h : zz_H} {t : cS} {s : mS} {d : Nat} {Q : zz_O → zz_H → Prop} {x1 : Int32} {x2 : Int32} {y0 : Int32} (hR : kR h t s) (k1 : ¬ y0 = (-1) → (∀ {h : zz_H}, kR h t s → zz_J zp_P zt_tf zt_fd X d zm_15 21 [(0, .ref 0), (1, .int x1), (2, .int x2)] [] h Q)) (k2 : ¬ ¬ y0 = (-1) → (∀ {h : zz_H}, kR h t s → zz_J zp_P zt_tf zt_fd X d zm_15 19 [] [] h Q)) : zz_J zp_P zt_tf zt_fd X d zm_15 15 [(0, .ref 0), (1, .int x1), (2, .int x2)] [.int y0] h Q := by
  refine zz_J.c 16 (.int (-1)) rfl rfl rfl rfl ?_
  refine zz_J.b2 21 19 (A := ¬ y0 = (-1)) rfl (zz_cond_ne _ _) (by decide) rfl rfl (fun c => ?_) (fun c => ?_)
  · exact zz_J.weak (k1 c hR) rfl ⟨rfl, rfl, rfl, trivial⟩
  · exact zz_J.weak (k2 c hR) rfl trivial
theorem cb_15_19 {X : Nat → Option zz_C} {h : zz_H} {t : cS} {s : mS} {d : Nat} {Q : zz_O → zz_H → Prop}  (hR : kR h t s) (k : ∀ {h : zz_H}, kR h t s → Q (.inl (some (.int (-1)))) h) : zz_J zp_P zt_tf zt_fd X d zm_15 19 [] [] h Q := by
  refine zz_J.c 20 (.int (-1)) rfl rfl rfl rfl ?_
  refine zz_J.ret rfl rfl rfl ?_
  exact k hR
theorem cb_15_21 {X : Nat → Option zz_C} {h : zz_H} {t : cS} {s : mS} {d : Nat} {Q : zz_O → zz_H → Prop} {x1 : Int32} {x2 : Int32} (hR : kR h t s) (k : ∀ {h : zz_H}, kR h t s → zz_J zp_P zt_tf zt_fd X d zm_251 0 [(0, .ref 0), (1, .int x1)] [] h (zz_after 12 Q (fun v h' => zz_J zp_P zt_tf zt_fd X (d + 1) zm_15 26 [(0, .ref 0), (2, .int x2)] (v.toList ++ []) h' Q))) : zz_J zp_P zt_tf zt_fd X (d + 1) zm_15 21 [(0, .ref 0), (1, .int x1), (2, .int x2)] [] h Q := by
  refine zz_J.n 22 rfl rfl rfl ?_
  refine zz_J.n 23 rfl rfl rfl ?_
  refine zz_J.cv 26 (as := []) rfl rfl (hR.clO ko_0 (by decide) (by decide)) (by decide) (Nat.le_of_ble_eq_true rfl) (Nat.le_of_ble_eq_true rfl) rfl (Nat.le_of_ble_eq_true rfl) rfl ?_
  refine zz_J.mono (k hR) ?_
  intro o h' hE
  cases o with
  | inl v => exact zz_J.weak hE rfl ⟨rfl, rfl, trivial⟩
  | inr q => exact hE
theorem cb_15_26 {X : Nat → Option zz_C} {h : zz_H} {t : cS} {s : mS} {d : Nat} {Q : zz_O → zz_H → Prop} {x2 : Int32} {y0 : Int64} (hR : kR h t s) (k1 : ¬ x2 = (-1) → (∀ {h : zz_H}, kR h t s → zz_J zp_P zt_tf zt_fd X d zm_15 41 [(0, .ref 0), (2, .int x2), (3, .long y0)] [] h Q)) (k2 : ¬ ¬ x2 = (-1) → (∀ {h : zz_H}, kR h t s → zz_J zp_P zt_tf zt_fd X d zm_15 32 [(0, .ref 0), (3, .long y0)] [] h Q)) : zz_J zp_P zt_tf zt_fd X d zm_15 26 [(0, .ref 0), (2, .int x2)] [.long y0] h Q := by
  refine zz_J.n 27 rfl rfl rfl ?_
  refine zz_J.n 28 rfl rfl rfl ?_
  refine zz_J.c 29 (.int (-1)) rfl rfl rfl rfl ?_
  refine zz_J.b2 41 32 (A := ¬ x2 = (-1)) rfl (zz_cond_ne _ _) (by decide) rfl rfl (fun c => ?_) (fun c => ?_)
  · exact zz_J.weak (k1 c hR) rfl ⟨rfl, rfl, rfl, trivial⟩
  · exact zz_J.weak (k2 c hR) rfl ⟨rfl, rfl, trivial⟩
theorem cb_15_32 {X : Nat → Option zz_C} {h : zz_H} {t : cS} {s : mS} {d : Nat} {Q : zz_O → zz_H → Prop} {x3 : Int64} (hR : kR h t s) (k : ∀ {h : zz_H}, kR h t s → zz_J zp_P zt_tf zt_fd X d zm_128 0 [(0, .ref 42), (1, .long x3)] [] h (zz_after 2 Q (fun v h' => zz_J zp_P zt_tf zt_fd X (d + 1) zm_15 40 [] (v.toList ++ []) h' Q))) : zz_J zp_P zt_tf zt_fd X (d + 1) zm_15 32 [(0, .ref 0), (3, .long x3)] [] h Q := by
  refine zz_J.n 33 rfl rfl rfl ?_
  refine zz_J.g 36 rfl (hR.gv (v := .ref 42) ko_0 (by decide) rfl) rfl ?_
  refine zz_J.n 37 rfl rfl rfl ?_
  refine zz_J.cv 40 (as := []) rfl rfl (hR.clO ko_42 (by decide) (by decide)) (by decide) (Nat.le_of_ble_eq_true rfl) (Nat.le_of_ble_eq_true rfl) rfl (Nat.le_of_ble_eq_true rfl) rfl ?_
  refine zz_J.mono (k hR) ?_
  intro o h' hE
  cases o with
  | inl v => exact zz_J.weak hE rfl trivial
  | inr q => exact hE
theorem cb_15_40 {X : Nat → Option zz_C} {h : zz_H} {t : cS} {s : mS} {d : Nat} {Q : zz_O → zz_H → Prop} {y0 : Int32} (hR : kR h t s) (k : ∀ {h : zz_H}, kR h t s → Q (.inl (some (.int y0))) h) : zz_J zp_P zt_tf zt_fd X d zm_15 40 [] [.int y0] h Q := by
  refine zz_J.ret rfl rfl rfl ?_
  exact k hR
theorem cb_15_41 {X : Nat → Option zz_C} {h : zz_H} {t : cS} {s : mS} {d : Nat} {Q : zz_O → zz_H → Prop} {x2 : Int32} {x3 : Int64} (hR : kR h t s) (k1 : x2 < 0 → (∀ {h : zz_H}, kR h t s → zz_J zp_P zt_tf zt_fd X d zm_15 65 [] [] h Q)) (k2 : ¬ x2 < 0 → (∀ {h : zz_H}, kR h t s → zz_J zp_P zt_tf zt_fd X d zm_15 45 [(0, .ref 0), (2, .int x2), (3, .long x3)] [] h Q)) : zz_J zp_P zt_tf zt_fd X d zm_15 41 [(0, .ref 0), (2, .int x2), (3, .long x3)] [] h Q := by
  refine zz_J.n 42 rfl rfl rfl ?_
  refine zz_J.b1 65 45 (A := x2 < 0) rfl rfl (by decide) rfl rfl (fun c => ?_) (fun c => ?_)
  · exact zz_J.weak (k1 c hR) rfl trivial
  · exact zz_J.weak (k2 c hR) rfl ⟨rfl, rfl, rfl, trivial⟩
theorem cb_15_45 {X : Nat → Option zz_C} {h : zz_H} {t : cS} {s : mS} {d : Nat} {Q : zz_O → zz_H → Prop} {x2 : Int32} {x3 : Int64} (hR : kR h t s) (k : ∀ {h : zz_H}, kR h t s → zz_J zp_P zt_tf zt_fd X d zm_128 0 [(0, .ref 42), (1, .long x3)] [] h (zz_after 2 Q (fun v h' => zz_J zp_P zt_tf zt_fd X (d + 1) zm_15 54 [(0, .ref 0), (2, .int x2), (3, .long x3)] (v.toList ++ [.int x2]) h' Q))) : zz_J zp_P zt_tf zt_fd X (d + 1) zm_15 45 [(0, .ref 0), (2, .int x2), (3, .long x3)] [] h Q := by
  refine zz_J.n 46 rfl rfl rfl ?_
  refine zz_J.n 47 rfl rfl rfl ?_
  refine zz_J.g 50 rfl (hR.gv (v := .ref 42) ko_0 (by decide) rfl) rfl ?_
  refine zz_J.n 51 rfl rfl rfl ?_
  refine zz_J.cv 54 (as := [.int x2]) rfl rfl (hR.clO ko_42 (by decide) (by decide)) (by decide) (Nat.le_of_ble_eq_true rfl) (Nat.le_of_ble_eq_true rfl) rfl (Nat.le_of_ble_eq_true rfl) rfl ?_
  refine zz_J.mono (k hR) ?_
  intro o h' hE
  cases o with
  | inl v => exact zz_J.weak hE rfl ⟨rfl, rfl, rfl, trivial⟩
  | inr q => exact hE
theorem cb_15_54 {X : Nat → Option zz_C} {h : zz_H} {t : cS} {s : mS} {d : Nat} {Q : zz_O → zz_H → Prop} {x2 : Int32} {x3 : Int64} {y0 : Int32} {y1 : Int32} (hR : kR h t s) (k1 : y1 ≤ y0 → (∀ {h : zz_H}, kR h t s → zz_J zp_P zt_tf zt_fd X d zm_15 65 [] [] h Q)) (k2 : ¬ y1 ≤ y0 → (∀ {h : zz_H}, kR h t s → zz_J zp_P zt_tf zt_fd X d zm_15 57 [(0, .ref 0), (2, .int x2), (3, .long x3)] [] h Q)) : zz_J zp_P zt_tf zt_fd X d zm_15 54 [(0, .ref 0), (2, .int x2), (3, .long x3)] [.int y1, .int y0] h Q := by
  refine zz_J.b2 65 57 (A := y1 ≤ y0) rfl rfl (by decide) rfl rfl (fun c => ?_) (fun c => ?_)
  · exact zz_J.weak (k1 c hR) rfl trivial
  · exact zz_J.weak (k2 c hR) rfl ⟨rfl, rfl, rfl, trivial⟩
theorem cb_15_57 {X : Nat → Option zz_C} {h : zz_H} {t : cS} {s : mS} {d : Nat} {Q : zz_O → zz_H → Prop} {x2 : Int32} {x3 : Int64} (hR : kR h t s) (k : ∀ {h : zz_H}, kR h t s → zz_J zp_P zt_tf zt_fd X d zm_255 0 [(0, .long x3)] [] h (zz_after 0 Q (fun v h' => zz_J zp_P zt_tf zt_fd X (d + 1) zm_15 61 [(0, .ref 0), (2, .int x2), (3, .long x3)] (v.toList ++ []) h' Q))) : zz_J zp_P zt_tf zt_fd X (d + 1) zm_15 57 [(0, .ref 0), (2, .int x2), (3, .long x3)] [] h Q := by
  refine zz_J.n 58 rfl rfl rfl ?_
  refine zz_J.cl (M' := zm_255) 61 rfl rfl (by decide) rfl rfl ⟨rfl, Nat.le_of_ble_eq_true rfl⟩ rfl ?_
  refine zz_J.mono (k hR) ?_
  intro o h' hE
  cases o with
  | inl v => exact zz_J.weak hE rfl ⟨rfl, rfl, rfl, trivial⟩
  | inr q => exact hE
theorem cb_15_61 {X : Nat → Option zz_C} {h : zz_H} {t : cS} {s : mS} {d : Nat} {Q : zz_O → zz_H → Prop} {x2 : Int32} {x3 : Int64} {y0 : Int32} (hR : kR h t s) (k1 : ¬ y0 = 1 → (∀ {h : zz_H}, kR h t s → zz_J zp_P zt_tf zt_fd X d zm_15 67 [(0, .ref 0), (2, .int x2), (3, .long x3)] [] h Q)) (k2 : ¬ ¬ y0 = 1 → (∀ {h : zz_H}, kR h t s → zz_J zp_P zt_tf zt_fd X d zm_15 65 [] [] h Q)) : zz_J zp_P zt_tf zt_fd X d zm_15 61 [(0, .ref 0), (2, .int x2), (3, .long x3)] [.int y0] h Q := by
  refine zz_J.c 62 (.int 1) rfl rfl rfl rfl ?_
  refine zz_J.b2 67 65 (A := ¬ y0 = 1) rfl (zz_cond_ne _ _) (by decide) rfl rfl (fun c => ?_) (fun c => ?_)
  · exact zz_J.weak (k1 c hR) rfl ⟨rfl, rfl, rfl, trivial⟩
  · exact zz_J.weak (k2 c hR) rfl trivial
theorem cb_15_65 {X : Nat → Option zz_C} {h : zz_H} {t : cS} {s : mS} {d : Nat} {Q : zz_O → zz_H → Prop}  (hR : kR h t s) (k : ∀ {h : zz_H}, kR h t s → Q (.inl (some (.int (-1)))) h) : zz_J zp_P zt_tf zt_fd X d zm_15 65 [] [] h Q := by
  refine zz_J.c 66 (.int (-1)) rfl rfl rfl rfl ?_
  refine zz_J.ret rfl rfl rfl ?_
  exact k hR
theorem cb_15_67 {X : Nat → Option zz_C} {h : zz_H} {t : cS} {s : mS} {d : Nat} {Q : zz_O → zz_H → Prop} {x2 : Int32} {x3 : Int64} (hR : kR h t s) (k : ∀ {h : zz_H}, kR h t s → zz_J zp_P zt_tf zt_fd X d zm_129 0 [(0, .ref 42), (1, .long x3), (3, .int x2)] [] h (zz_after 2 Q (fun v h' => zz_J zp_P zt_tf zt_fd X (d + 1) zm_15 76 [(0, .ref 0), (3, .long x3)] (v.toList ++ []) h' Q))) : zz_J zp_P zt_tf zt_fd X (d + 1) zm_15 67 [(0, .ref 0), (2, .int x2), (3, .long x3)] [] h Q := by
  refine zz_J.n 68 rfl rfl rfl ?_
  refine zz_J.g 71 rfl (hR.gv (v := .ref 42) ko_0 (by decide) rfl) rfl ?_
  refine zz_J.n 72 rfl rfl rfl ?_
  refine zz_J.n 73 rfl rfl rfl ?_
  refine zz_J.cv 76 (as := []) rfl rfl (hR.clO ko_42 (by decide) (by decide)) (by decide) (Nat.le_of_ble_eq_true rfl) (Nat.le_of_ble_eq_true rfl) rfl (Nat.le_of_ble_eq_true rfl) rfl ?_
  refine zz_J.mono (k hR) ?_
  intro o h' hE
  cases o with
  | inl v => exact zz_J.weak hE rfl ⟨rfl, rfl, trivial⟩
  | inr q => exact hE
theorem cb_15_76 {X : Nat → Option zz_C} {h : zz_H} {t : cS} {s : mS} {d : Nat} {Q : zz_O → zz_H → Prop} {x3 : Int64} {y0 : Int64} (hR : kR h t s) (k : ∀ {h : zz_H}, kR h t s → zz_J zp_P zt_tf zt_fd X d zm_255 0 [(0, .long x3)] [] h (zz_after 0 Q (fun v h' => zz_J zp_P zt_tf zt_fd X (d + 1) zm_15 82 [(0, .ref 0), (5, .long y0)] (v.toList ++ []) h' Q))) : zz_J zp_P zt_tf zt_fd X (d + 1) zm_15 76 [(0, .ref 0), (3, .long x3)] [.long y0] h Q := by
  refine zz_J.n 78 rfl rfl rfl ?_
  refine zz_J.n 79 rfl rfl rfl ?_
  refine zz_J.cl (M' := zm_255) 82 rfl rfl (by decide) rfl rfl ⟨rfl, Nat.le_of_ble_eq_true rfl⟩ rfl ?_
  refine zz_J.mono (k hR) ?_
  intro o h' hE
  cases o with
  | inl v => exact zz_J.weak hE rfl ⟨rfl, rfl, trivial⟩
  | inr q => exact hE
theorem cb_15_82 {X : Nat → Option zz_C} {h : zz_H} {t : cS} {s : mS} {d : Nat} {Q : zz_O → zz_H → Prop} {x5 : Int64} {y0 : Int32} (hR : kR h t s) (k1 : ¬ y0 = 2 → (∀ {h : zz_H}, kR h t s → zz_J zp_P zt_tf zt_fd X d zm_15 98 [(5, .long x5)] [] h Q)) (k2 : ¬ ¬ y0 = 2 → (∀ {h : zz_H}, kR h t s → zz_J zp_P zt_tf zt_fd X d zm_15 86 [(0, .ref 0), (5, .long x5)] [] h Q)) : zz_J zp_P zt_tf zt_fd X d zm_15 82 [(0, .ref 0), (5, .long x5)] [.int y0] h Q := by
  refine zz_J.c 83 (.int 2) rfl rfl rfl rfl ?_
  refine zz_J.b2 98 86 (A := ¬ y0 = 2) rfl (zz_cond_ne _ _) (by decide) rfl rfl (fun c => ?_) (fun c => ?_)
  · exact zz_J.weak (k1 c hR) rfl ⟨rfl, trivial⟩
  · exact zz_J.weak (k2 c hR) rfl ⟨rfl, rfl, trivial⟩
theorem cb_15_86 {X : Nat → Option zz_C} {h : zz_H} {t : cS} {s : mS} {d : Nat} {Q : zz_O → zz_H → Prop} {x5 : Int64} (hR : kR h t s) (k : ∀ {h : zz_H}, kR h t s → zz_J zp_P zt_tf zt_fd X d zm_128 0 [(0, .ref 42), (1, .long x5)] [] h (zz_after 2 Q (fun v h' => zz_J zp_P zt_tf zt_fd X (d + 1) zm_15 95 [] (v.toList ++ []) h' Q))) : zz_J zp_P zt_tf zt_fd X (d + 1) zm_15 86 [(0, .ref 0), (5, .long x5)] [] h Q := by
  refine zz_J.n 87 rfl rfl rfl ?_
  refine zz_J.g 90 rfl (hR.gv (v := .ref 42) ko_0 (by decide) rfl) rfl ?_
  refine zz_J.n 92 rfl rfl rfl ?_
  refine zz_J.cv 95 (as := []) rfl rfl (hR.clO ko_42 (by decide) (by decide)) (by decide) (Nat.le_of_ble_eq_true rfl) (Nat.le_of_ble_eq_true rfl) rfl (Nat.le_of_ble_eq_true rfl) rfl ?_
  refine zz_J.mono (k hR) ?_
  intro o h' hE
  cases o with
  | inl v => exact zz_J.weak hE rfl trivial
  | inr q => exact hE
theorem cb_15_95 {X : Nat → Option zz_C} {h : zz_H} {t : cS} {s : mS} {d : Nat} {Q : zz_O → zz_H → Prop} {y0 : Int32} (hR : kR h t s) (k : ∀ {h : zz_H}, kR h t s → zz_J zp_P zt_tf zt_fd X d zm_15 103 [] [.int y0] h Q) : zz_J zp_P zt_tf zt_fd X d zm_15 95 [] [.int y0] h Q := by
  refine zz_J.n 103 rfl rfl rfl ?_
  exact zz_J.weak (k hR) rfl trivial
theorem cb_15_98 {X : Nat → Option zz_C} {h : zz_H} {t : cS} {s : mS} {d : Nat} {Q : zz_O → zz_H → Prop} {x5 : Int64} (hR : kR h t s) (k : ∀ {h : zz_H}, kR h t s → zz_J zp_P zt_tf zt_fd X d zm_255 0 [(0, .long x5)] [] h (zz_after 0 Q (fun v h' => zz_J zp_P zt_tf zt_fd X (d + 1) zm_15 103 [] (v.toList ++ []) h' Q))) : zz_J zp_P zt_tf zt_fd X (d + 1) zm_15 98 [(5, .long x5)] [] h Q := by
  refine zz_J.n 100 rfl rfl rfl ?_
  refine zz_J.cl (M' := zm_255) 103 rfl rfl (by decide) rfl rfl ⟨rfl, Nat.le_of_ble_eq_true rfl⟩ rfl ?_
  refine zz_J.mono (k hR) ?_
  intro o h' hE
  cases o with
  | inl v => exact zz_J.weak hE rfl trivial
  | inr q => exact hE
theorem cb_15_103 {X : Nat → Option zz_C} {h : zz_H} {t : cS} {s : mS} {d : Nat} {Q : zz_O → zz_H → Prop} {y0 : Int32} (hR : kR h t s) (k : ∀ {h : zz_H}, kR h t s → Q (.inl (some (.int y0))) h) : zz_J zp_P zt_tf zt_fd X d zm_15 103 [] [.int y0] h Q := by
  refine zz_J.ret rfl rfl rfl ?_
  exact k hR
def cf_15_19 (N : Nat) (X : Nat → Option zz_C)  (t : cS) : kO := some (t, .inl (some (.int (-1))))
theorem cr_15_19 {X : Nat → Option zz_C} {s : mS} {N : Nat} {d : Nat} (hd : 26 ≤ d) {Q : zz_O → zz_H → Prop}  {h : zz_H} {t t' : cS} {o : kY} (hR : kR h t s) (hf : cf_15_19 N X  t = some (t', o)) (k : (∀ h', kR h' t' s → kE o Q h')) : zz_J zp_P zt_tf zt_fd X d zm_15 19 [] [] h Q := by
  unfold cf_15_19 at hf
  cases hf
  exact cb_15_19 hR  (fun {h} hR => k h hR)
def cf_15_65 (N : Nat) (X : Nat → Option zz_C)  (t : cS) : kO := some (t, .inl (some (.int (-1))))
theorem cr_15_65 {X : Nat → Option zz_C} {s : mS} {N : Nat} {d : Nat} (hd : 26 ≤ d) {Q : zz_O → zz_H → Prop}  {h : zz_H} {t t' : cS} {o : kY} (hR : kR h t s) (hf : cf_15_65 N X  t = some (t', o)) (k : (∀ h', kR h' t' s → kE o Q h')) : zz_J zp_P zt_tf zt_fd X d zm_15 65 [] [] h Q := by
  unfold cf_15_65 at hf
  cases hf
  exact cb_15_65 hR  (fun {h} hR => k h hR)
def cf_15_103 (N : Nat) (X : Nat → Option zz_C) (y0 : Int32) (t : cS) : kO := some (t, .inl (some (.int y0)))
theorem cr_15_103 {X : Nat → Option zz_C} {s : mS} {N : Nat} {d : Nat} (hd : 26 ≤ d) {Q : zz_O → zz_H → Prop} {y0 : Int32} {h : zz_H} {t t' : cS} {o : kY} (hR : kR h t s) (hf : cf_15_103 N X y0 t = some (t', o)) (k : (∀ h', kR h' t' s → kE o Q h')) : zz_J zp_P zt_tf zt_fd X d zm_15 103 [] [.int y0] h Q := by
  unfold cf_15_103 at hf
  cases hf
  exact cb_15_103 hR  (fun {h} hR => k h hR)
def cf_15_98 (N : Nat) (X : Nat → Option zz_C) (x5 : Int64) (t : cS) : kO := ko_call 0 (cf_255 N X x5 t) (fun g1 v1 => co_i v1 (fun y => cf_15_103 N X y g1))
theorem cr_15_98 {X : Nat → Option zz_C} {s : mS} {N : Nat} {d : Nat} (hd : 26 ≤ d) {Q : zz_O → zz_H → Prop} {x5 : Int64} {h : zz_H} {t t' : cS} {o : kY} (hR : kR h t s) (hf : cf_15_98 N X x5 t = some (t', o)) (k : (∀ h', kR h' t' s → kE o Q h')) : zz_J zp_P zt_tf zt_fd X d zm_15 98 [(5, .long x5)] [] h Q := by
  unfold cf_15_98 at hf
  obtain ⟨d', rfl⟩ : ∃ d', d = d' + 1 := ⟨d - 1, by omega⟩
  refine cb_15_98 hR  (fun {h} hR => ?_)
  rcases ko_call_ok hf with ⟨g1, v1, er, hf⟩ | ⟨g1, er, hq⟩
  · obtain ⟨y, hv, hf2⟩ := co_i_ok hf
    clear hf
    have hf := hf2
    clear hf2
    subst hv
    refine cr_255 (by omega) hR er (fun h hR => ?_)
    exact cr_15_103 hd hR hf k
  · refine cr_255 (by omega) hR er (fun h hR => ?_)
    exact ko_thrown hq hR k
def cf_15_95 (N : Nat) (X : Nat → Option zz_C) (y0 : Int32) (t : cS) : kO := cf_15_103 N X y0 t
theorem cr_15_95 {X : Nat → Option zz_C} {s : mS} {N : Nat} {d : Nat} (hd : 26 ≤ d) {Q : zz_O → zz_H → Prop} {y0 : Int32} {h : zz_H} {t t' : cS} {o : kY} (hR : kR h t s) (hf : cf_15_95 N X y0 t = some (t', o)) (k : (∀ h', kR h' t' s → kE o Q h')) : zz_J zp_P zt_tf zt_fd X d zm_15 95 [] [.int y0] h Q := by
  unfold cf_15_95 at hf
  exact cb_15_95 hR  (fun hR => cr_15_103 hd hR hf k)
def cf_15_86 (N : Nat) (X : Nat → Option zz_C) (x5 : Int64) (t : cS) : kO := ko_call 2 (cf_128 N X x5 t) (fun g1 v1 => co_i v1 (fun y => cf_15_95 N X y g1))
theorem cr_15_86 {X : Nat → Option zz_C} {s : mS} {N : Nat} {d : Nat} (hd : 26 ≤ d) {Q : zz_O → zz_H → Prop} {x5 : Int64} {h : zz_H} {t t' : cS} {o : kY} (hR : kR h t s) (hf : cf_15_86 N X x5 t = some (t', o)) (k : (∀ h', kR h' t' s → kE o Q h')) : zz_J zp_P zt_tf zt_fd X d zm_15 86 [(0, .ref 0), (5, .long x5)] [] h Q := by
  unfold cf_15_86 at hf
  obtain ⟨d', rfl⟩ : ∃ d', d = d' + 1 := ⟨d - 1, by omega⟩
  refine cb_15_86 hR  (fun {h} hR => ?_)
  rcases ko_call_ok hf with ⟨g1, v1, er, hf⟩ | ⟨g1, er, hq⟩
  · obtain ⟨y, hv, hf2⟩ := co_i_ok hf
    clear hf
    have hf := hf2
    clear hf2
    subst hv
    refine cr_128 (by omega) hR er (fun h hR => ?_)
    exact cr_15_95 hd hR hf k
  · refine cr_128 (by omega) hR er (fun h hR => ?_)
    exact ko_thrown hq hR k
def cf_15_82 (N : Nat) (X : Nat → Option zz_C) (x5 : Int64) (y0 : Int32) (t : cS) : kO := if ¬ y0 = 2 then cf_15_98 N X x5 t else cf_15_86 N X x5 t
theorem cr_15_82 {X : Nat → Option zz_C} {s : mS} {N : Nat} {d : Nat} (hd : 26 ≤ d) {Q : zz_O → zz_H → Prop} {x5 : Int64} {y0 : Int32} {h : zz_H} {t t' : cS} {o : kY} (hR : kR h t s) (hf : cf_15_82 N X x5 y0 t = some (t', o)) (k : (∀ h', kR h' t' s → kE o Q h')) : zz_J zp_P zt_tf zt_fd X d zm_15 82 [(0, .ref 0), (5, .long x5)] [.int y0] h Q := by
  unfold cf_15_82 at hf
  refine cb_15_82 hR  (fun c {h} hR => ?_) (fun c {h} hR => ?_)
  · rw [if_pos c] at hf
    exact cr_15_98 hd hR hf k
  · rw [if_neg c] at hf
    exact cr_15_86 hd hR hf k
def cf_15_76 (N : Nat) (X : Nat → Option zz_C) (x3 : Int64) (y0 : Int64) (t : cS) : kO := ko_call 0 (cf_255 N X x3 t) (fun g1 v1 => co_i v1 (fun y => cf_15_82 N X y0 y g1))
theorem cr_15_76 {X : Nat → Option zz_C} {s : mS} {N : Nat} {d : Nat} (hd : 26 ≤ d) {Q : zz_O → zz_H → Prop} {x3 : Int64} {y0 : Int64} {h : zz_H} {t t' : cS} {o : kY} (hR : kR h t s) (hf : cf_15_76 N X x3 y0 t = some (t', o)) (k : (∀ h', kR h' t' s → kE o Q h')) : zz_J zp_P zt_tf zt_fd X d zm_15 76 [(0, .ref 0), (3, .long x3)] [.long y0] h Q := by
  unfold cf_15_76 at hf
  obtain ⟨d', rfl⟩ : ∃ d', d = d' + 1 := ⟨d - 1, by omega⟩
  refine cb_15_76 hR  (fun {h} hR => ?_)
  rcases ko_call_ok hf with ⟨g1, v1, er, hf⟩ | ⟨g1, er, hq⟩
  · obtain ⟨y, hv, hf2⟩ := co_i_ok hf
    clear hf
    have hf := hf2
    clear hf2
    subst hv
    refine cr_255 (by omega) hR er (fun h hR => ?_)
    exact cr_15_82 hd hR hf k
  · refine cr_255 (by omega) hR er (fun h hR => ?_)
    exact ko_thrown hq hR k
def cf_15_67 (N : Nat) (X : Nat → Option zz_C) (x2 : Int32) (x3 : Int64) (t : cS) : kO := ko_call 2 (cf_129 N X x3 x2 t) (fun g1 v1 => co_l v1 (fun y => cf_15_76 N X x3 y g1))
theorem cr_15_67 {X : Nat → Option zz_C} {s : mS} {N : Nat} {d : Nat} (hd : 26 ≤ d) {Q : zz_O → zz_H → Prop} {x2 : Int32} {x3 : Int64} {h : zz_H} {t t' : cS} {o : kY} (hR : kR h t s) (hf : cf_15_67 N X x2 x3 t = some (t', o)) (k : (∀ h', kR h' t' s → kE o Q h')) : zz_J zp_P zt_tf zt_fd X d zm_15 67 [(0, .ref 0), (2, .int x2), (3, .long x3)] [] h Q := by
  unfold cf_15_67 at hf
  obtain ⟨d', rfl⟩ : ∃ d', d = d' + 1 := ⟨d - 1, by omega⟩
  refine cb_15_67 hR  (fun {h} hR => ?_)
  rcases ko_call_ok hf with ⟨g1, v1, er, hf⟩ | ⟨g1, er, hq⟩
  · obtain ⟨y, hv, hf2⟩ := co_l_ok hf
    clear hf
    have hf := hf2
    clear hf2
    subst hv
    refine cr_129 (by omega) hR er (fun h hR => ?_)
    exact cr_15_76 hd hR hf k
  · refine cr_129 (by omega) hR er (fun h hR => ?_)
    exact ko_thrown hq hR k
def cf_15_61 (N : Nat) (X : Nat → Option zz_C) (x2 : Int32) (x3 : Int64) (y0 : Int32) (t : cS) : kO := if ¬ y0 = 1 then cf_15_67 N X x2 x3 t else cf_15_65 N X  t
theorem cr_15_61 {X : Nat → Option zz_C} {s : mS} {N : Nat} {d : Nat} (hd : 26 ≤ d) {Q : zz_O → zz_H → Prop} {x2 : Int32} {x3 : Int64} {y0 : Int32} {h : zz_H} {t t' : cS} {o : kY} (hR : kR h t s) (hf : cf_15_61 N X x2 x3 y0 t = some (t', o)) (k : (∀ h', kR h' t' s → kE o Q h')) : zz_J zp_P zt_tf zt_fd X d zm_15 61 [(0, .ref 0), (2, .int x2), (3, .long x3)] [.int y0] h Q := by
  unfold cf_15_61 at hf
  refine cb_15_61 hR  (fun c {h} hR => ?_) (fun c {h} hR => ?_)
  · rw [if_pos c] at hf
    exact cr_15_67 hd hR hf k
  · rw [if_neg c] at hf
    exact cr_15_65 hd hR hf k
def cf_15_57 (N : Nat) (X : Nat → Option zz_C) (x2 : Int32) (x3 : Int64) (t : cS) : kO := ko_call 0 (cf_255 N X x3 t) (fun g1 v1 => co_i v1 (fun y => cf_15_61 N X x2 x3 y g1))
theorem cr_15_57 {X : Nat → Option zz_C} {s : mS} {N : Nat} {d : Nat} (hd : 26 ≤ d) {Q : zz_O → zz_H → Prop} {x2 : Int32} {x3 : Int64} {h : zz_H} {t t' : cS} {o : kY} (hR : kR h t s) (hf : cf_15_57 N X x2 x3 t = some (t', o)) (k : (∀ h', kR h' t' s → kE o Q h')) : zz_J zp_P zt_tf zt_fd X d zm_15 57 [(0, .ref 0), (2, .int x2), (3, .long x3)] [] h Q := by
  unfold cf_15_57 at hf
  obtain ⟨d', rfl⟩ : ∃ d', d = d' + 1 := ⟨d - 1, by omega⟩
  refine cb_15_57 hR  (fun {h} hR => ?_)
  rcases ko_call_ok hf with ⟨g1, v1, er, hf⟩ | ⟨g1, er, hq⟩
  · obtain ⟨y, hv, hf2⟩ := co_i_ok hf
    clear hf
    have hf := hf2
    clear hf2
    subst hv
    refine cr_255 (by omega) hR er (fun h hR => ?_)
    exact cr_15_61 hd hR hf k
  · refine cr_255 (by omega) hR er (fun h hR => ?_)
    exact ko_thrown hq hR k
def cf_15_54 (N : Nat) (X : Nat → Option zz_C) (x2 : Int32) (x3 : Int64) (y0 : Int32) (y1 : Int32) (t : cS) : kO := if y1 ≤ y0 then cf_15_65 N X  t else cf_15_57 N X x2 x3 t
theorem cr_15_54 {X : Nat → Option zz_C} {s : mS} {N : Nat} {d : Nat} (hd : 26 ≤ d) {Q : zz_O → zz_H → Prop} {x2 : Int32} {x3 : Int64} {y0 : Int32} {y1 : Int32} {h : zz_H} {t t' : cS} {o : kY} (hR : kR h t s) (hf : cf_15_54 N X x2 x3 y0 y1 t = some (t', o)) (k : (∀ h', kR h' t' s → kE o Q h')) : zz_J zp_P zt_tf zt_fd X d zm_15 54 [(0, .ref 0), (2, .int x2), (3, .long x3)] [.int y1, .int y0] h Q := by
  unfold cf_15_54 at hf
  refine cb_15_54 hR  (fun c {h} hR => ?_) (fun c {h} hR => ?_)
  · rw [if_pos c] at hf
    exact cr_15_65 hd hR hf k
  · rw [if_neg c] at hf
    exact cr_15_57 hd hR hf k
def cf_15_45 (N : Nat) (X : Nat → Option zz_C) (x2 : Int32) (x3 : Int64) (t : cS) : kO := ko_call 2 (cf_128 N X x3 t) (fun g1 v1 => co_i v1 (fun y => cf_15_54 N X x2 x3 x2 y g1))
theorem cr_15_45 {X : Nat → Option zz_C} {s : mS} {N : Nat} {d : Nat} (hd : 26 ≤ d) {Q : zz_O → zz_H → Prop} {x2 : Int32} {x3 : Int64} {h : zz_H} {t t' : cS} {o : kY} (hR : kR h t s) (hf : cf_15_45 N X x2 x3 t = some (t', o)) (k : (∀ h', kR h' t' s → kE o Q h')) : zz_J zp_P zt_tf zt_fd X d zm_15 45 [(0, .ref 0), (2, .int x2), (3, .long x3)] [] h Q := by
  unfold cf_15_45 at hf
  obtain ⟨d', rfl⟩ : ∃ d', d = d' + 1 := ⟨d - 1, by omega⟩
  refine cb_15_45 hR  (fun {h} hR => ?_)
  rcases ko_call_ok hf with ⟨g1, v1, er, hf⟩ | ⟨g1, er, hq⟩
  · obtain ⟨y, hv, hf2⟩ := co_i_ok hf
    clear hf
    have hf := hf2
    clear hf2
    subst hv
    refine cr_128 (by omega) hR er (fun h hR => ?_)
    exact cr_15_54 hd hR hf k
  · refine cr_128 (by omega) hR er (fun h hR => ?_)
    exact ko_thrown hq hR k
def cf_15_41 (N : Nat) (X : Nat → Option zz_C) (x2 : Int32) (x3 : Int64) (t : cS) : kO := if x2 < 0 then cf_15_65 N X  t else cf_15_45 N X x2 x3 t
theorem cr_15_41 {X : Nat → Option zz_C} {s : mS} {N : Nat} {d : Nat} (hd : 26 ≤ d) {Q : zz_O → zz_H → Prop} {x2 : Int32} {x3 : Int64} {h : zz_H} {t t' : cS} {o : kY} (hR : kR h t s) (hf : cf_15_41 N X x2 x3 t = some (t', o)) (k : (∀ h', kR h' t' s → kE o Q h')) : zz_J zp_P zt_tf zt_fd X d zm_15 41 [(0, .ref 0), (2, .int x2), (3, .long x3)] [] h Q := by
  unfold cf_15_41 at hf
  refine cb_15_41 hR  (fun c {h} hR => ?_) (fun c {h} hR => ?_)
  · rw [if_pos c] at hf
    exact cr_15_65 hd hR hf k
  · rw [if_neg c] at hf
    exact cr_15_45 hd hR hf k
def cf_15_40 (N : Nat) (X : Nat → Option zz_C) (y0 : Int32) (t : cS) : kO := some (t, .inl (some (.int y0)))
theorem cr_15_40 {X : Nat → Option zz_C} {s : mS} {N : Nat} {d : Nat} (hd : 26 ≤ d) {Q : zz_O → zz_H → Prop} {y0 : Int32} {h : zz_H} {t t' : cS} {o : kY} (hR : kR h t s) (hf : cf_15_40 N X y0 t = some (t', o)) (k : (∀ h', kR h' t' s → kE o Q h')) : zz_J zp_P zt_tf zt_fd X d zm_15 40 [] [.int y0] h Q := by
  unfold cf_15_40 at hf
  cases hf
  exact cb_15_40 hR  (fun {h} hR => k h hR)
def cf_15_32 (N : Nat) (X : Nat → Option zz_C) (x3 : Int64) (t : cS) : kO := ko_call 2 (cf_128 N X x3 t) (fun g1 v1 => co_i v1 (fun y => cf_15_40 N X y g1))
theorem cr_15_32 {X : Nat → Option zz_C} {s : mS} {N : Nat} {d : Nat} (hd : 26 ≤ d) {Q : zz_O → zz_H → Prop} {x3 : Int64} {h : zz_H} {t t' : cS} {o : kY} (hR : kR h t s) (hf : cf_15_32 N X x3 t = some (t', o)) (k : (∀ h', kR h' t' s → kE o Q h')) : zz_J zp_P zt_tf zt_fd X d zm_15 32 [(0, .ref 0), (3, .long x3)] [] h Q := by
  unfold cf_15_32 at hf
  obtain ⟨d', rfl⟩ : ∃ d', d = d' + 1 := ⟨d - 1, by omega⟩
  refine cb_15_32 hR  (fun {h} hR => ?_)
  rcases ko_call_ok hf with ⟨g1, v1, er, hf⟩ | ⟨g1, er, hq⟩
  · obtain ⟨y, hv, hf2⟩ := co_i_ok hf
    clear hf
    have hf := hf2
    clear hf2
    subst hv
    refine cr_128 (by omega) hR er (fun h hR => ?_)
    exact cr_15_40 hd hR hf k
  · refine cr_128 (by omega) hR er (fun h hR => ?_)
    exact ko_thrown hq hR k
def cf_15_26 (N : Nat) (X : Nat → Option zz_C) (x2 : Int32) (y0 : Int64) (t : cS) : kO := if ¬ x2 = (-1) then cf_15_41 N X x2 y0 t else cf_15_32 N X y0 t
theorem cr_15_26 {X : Nat → Option zz_C} {s : mS} {N : Nat} {d : Nat} (hd : 26 ≤ d) {Q : zz_O → zz_H → Prop} {x2 : Int32} {y0 : Int64} {h : zz_H} {t t' : cS} {o : kY} (hR : kR h t s) (hf : cf_15_26 N X x2 y0 t = some (t', o)) (k : (∀ h', kR h' t' s → kE o Q h')) : zz_J zp_P zt_tf zt_fd X d zm_15 26 [(0, .ref 0), (2, .int x2)] [.long y0] h Q := by
  unfold cf_15_26 at hf
  refine cb_15_26 hR  (fun c {h} hR => ?_) (fun c {h} hR => ?_)
  · rw [if_pos c] at hf
    exact cr_15_41 hd hR hf k
  · rw [if_neg c] at hf
    exact cr_15_32 hd hR hf k
def cf_15_21 (N : Nat) (X : Nat → Option zz_C) (x1 : Int32) (x2 : Int32) (t : cS) : kO := ko_call 12 (cf_251 N X x1 t) (fun g1 v1 => co_l v1 (fun y => cf_15_26 N X x2 y g1))
theorem cr_15_21 {X : Nat → Option zz_C} {s : mS} {N : Nat} {d : Nat} (hd : 26 ≤ d) {Q : zz_O → zz_H → Prop} {x1 : Int32} {x2 : Int32} {h : zz_H} {t t' : cS} {o : kY} (hR : kR h t s) (hf : cf_15_21 N X x1 x2 t = some (t', o)) (k : (∀ h', kR h' t' s → kE o Q h')) : zz_J zp_P zt_tf zt_fd X d zm_15 21 [(0, .ref 0), (1, .int x1), (2, .int x2)] [] h Q := by
  unfold cf_15_21 at hf
  obtain ⟨d', rfl⟩ : ∃ d', d = d' + 1 := ⟨d - 1, by omega⟩
  refine cb_15_21 hR  (fun {h} hR => ?_)
  rcases ko_call_ok hf with ⟨g1, v1, er, hf⟩ | ⟨g1, er, hq⟩
  · obtain ⟨y, hv, hf2⟩ := co_l_ok hf
    clear hf
    have hf := hf2
    clear hf2
    subst hv
    refine cr_251 (by omega) hR er (fun h hR => ?_)
    exact cr_15_26 hd hR hf k
  · refine cr_251 (by omega) hR er (fun h hR => ?_)
    exact ko_thrown hq hR k
def cf_15_15 (N : Nat) (X : Nat → Option zz_C) (x1 : Int32) (x2 : Int32) (y0 : Int32) (t : cS) : kO := if ¬ y0 = (-1) then cf_15_21 N X x1 x2 t else cf_15_19 N X  t
theorem cr_15_15 {X : Nat → Option zz_C} {s : mS} {N : Nat} {d : Nat} (hd : 26 ≤ d) {Q : zz_O → zz_H → Prop} {x1 : Int32} {x2 : Int32} {y0 : Int32} {h : zz_H} {t t' : cS} {o : kY} (hR : kR h t s) (hf : cf_15_15 N X x1 x2 y0 t = some (t', o)) (k : (∀ h', kR h' t' s → kE o Q h')) : zz_J zp_P zt_tf zt_fd X d zm_15 15 [(0, .ref 0), (1, .int x1), (2, .int x2)] [.int y0] h Q := by
  unfold cf_15_15 at hf
  refine cb_15_15 hR  (fun c {h} hR => ?_) (fun c {h} hR => ?_)
  · rw [if_pos c] at hf
    exact cr_15_21 hd hR hf k
  · rw [if_neg c] at hf
    exact cr_15_19 hd hR hf k
def cf_15_7 (N : Nat) (X : Nat → Option zz_C) (x1 : Int32) (x2 : Int32) (t : cS) : kO := co_b ((kP t 0 7)) (fun w0 => if kH t w0 = true then (ko_call 7 (cf_23 N X w0 x1 t) (fun g1 v1 => co_i v1 (fun y => cf_15_15 N X x1 x2 y g1))) else none)
theorem cr_15_7 {X : Nat → Option zz_C} {s : mS} {N : Nat} {d : Nat} (hd : 26 ≤ d) {Q : zz_O → zz_H → Prop} {x1 : Int32} {x2 : Int32} {h : zz_H} {t t' : cS} {o : kY} (hR : kR h t s) (hf : cf_15_7 N X x1 x2 t = some (t', o)) (k : (∀ h', kR h' t' s → kE o Q h')) : zz_J zp_P zt_tf zt_fd X d zm_15 7 [(0, .ref 0), (1, .int x1), (2, .int x2)] [] h Q := by
  unfold cf_15_7 at hf
  obtain ⟨w0, e0, hf⟩ := co_b_ok hf
  obtain ⟨e1, hf⟩ := ko_if hf
  obtain ⟨d', rfl⟩ : ∃ d', d = d' + 1 := ⟨d - 1, by omega⟩
  refine cb_15_7 hR e0 e1 (fun {h} hR => ?_)
  rcases ko_call_ok hf with ⟨g1, v1, er, hf⟩ | ⟨g1, er, hq⟩
  · obtain ⟨y, hv, hf2⟩ := co_i_ok hf
    clear hf
    have hf := hf2
    clear hf2
    subst hv
    refine cr_23 (by omega) hR er (fun h hR => ?_)
    exact cr_15_15 hd hR hf k
  · refine cr_23 (by omega) hR er (fun h hR => ?_)
    exact ko_thrown hq hR k
def cf_15_4 (N : Nat) (X : Nat → Option zz_C) (x1 : Int32) (x2 : Int32) (y0 : Int32) (t : cS) : kO := if y0 = 0 then cf_15_19 N X  t else cf_15_7 N X x1 x2 t
theorem cr_15_4 {X : Nat → Option zz_C} {s : mS} {N : Nat} {d : Nat} (hd : 26 ≤ d) {Q : zz_O → zz_H → Prop} {x1 : Int32} {x2 : Int32} {y0 : Int32} {h : zz_H} {t t' : cS} {o : kY} (hR : kR h t s) (hf : cf_15_4 N X x1 x2 y0 t = some (t', o)) (k : (∀ h', kR h' t' s → kE o Q h')) : zz_J zp_P zt_tf zt_fd X d zm_15 4 [(0, .ref 0), (1, .int x1), (2, .int x2)] [.int y0] h Q := by
  unfold cf_15_4 at hf
  refine cb_15_4 hR  (fun c {h} hR => ?_) (fun c {h} hR => ?_)
  · rw [if_pos c] at hf
    exact cr_15_19 hd hR hf k
  · rw [if_neg c] at hf
    exact cr_15_7 hd hR hf k
def cf_15_0 (N : Nat) (X : Nat → Option zz_C) (x1 : Int32) (x2 : Int32) (t : cS) : kO := ko_call 0 (cf_21 N X x1 t) (fun g1 v1 => co_i v1 (fun y => cf_15_4 N X x1 x2 y g1))
theorem cr_15_0 {X : Nat → Option zz_C} {s : mS} {N : Nat} {d : Nat} (hd : 26 ≤ d) {Q : zz_O → zz_H → Prop} {x1 : Int32} {x2 : Int32} {h : zz_H} {t t' : cS} {o : kY} (hR : kR h t s) (hf : cf_15_0 N X x1 x2 t = some (t', o)) (k : (∀ h', kR h' t' s → kE o Q h')) : zz_J zp_P zt_tf zt_fd X d zm_15 0 [(0, .ref 0), (1, .int x1), (2, .int x2)] [] h Q := by
  unfold cf_15_0 at hf
  obtain ⟨d', rfl⟩ : ∃ d', d = d' + 1 := ⟨d - 1, by omega⟩
  refine cb_15_0 hR  (fun {h} hR => ?_)
  rcases ko_call_ok hf with ⟨g1, v1, er, hf⟩ | ⟨g1, er, hq⟩
  · obtain ⟨y, hv, hf2⟩ := co_i_ok hf
    clear hf
    have hf := hf2
    clear hf2
    subst hv
    refine cr_21 (by omega) hR er (fun h hR => ?_)
    exact cr_15_4 hd hR hf k
  · refine cr_21 (by omega) hR er (fun h hR => ?_)
    exact ko_thrown hq hR k
/-- size -/
def cf_15 (N : Nat) (X : Nat → Option zz_C) (x1 : Int32) (x2 : Int32) (t : cS) : kO := cf_15_0 N X x1 x2 t
theorem cr_15 {X : Nat → Option zz_C} {s : mS} {N : Nat} {d : Nat} (hd : 26 ≤ d) {Q : zz_O → zz_H → Prop} {x1 : Int32} {x2 : Int32} {h : zz_H} {t t' : cS} {o : kY} (hR : kR h t s) (hf : cf_15 N X x1 x2 t = some (t', o)) (k : ∀ h', kR h' t' s → kE o Q h') : zz_J zp_P zt_tf zt_fd X d zm_15 0 [(0, .ref 0), (1, .int x1), (2, .int x2)] [] h Q := by
  unfold cf_15 at hf
  exact zz_J.weak (cr_15_0 hd hR hf k) rfl ⟨rfl, rfl, rfl, trivial⟩
/-! yX12_cell (III)I -/
theorem cb_16_0 {X : Nat → Option zz_C} {h : zz_H} {t : cS} {s : mS} {d : Nat} {Q : zz_O → zz_H → Prop} {x1 : Int32} {x2 : Int32} {x3 : Int32} (hR : kR h t s) (k : ∀ {h : zz_H}, kR h t s → zz_J zp_P zt_tf zt_fd X d zm_21 0 [(0, .int x1)] [] h (zz_after 0 Q (fun v h' => zz_J zp_P zt_tf zt_fd X (d + 1) zm_16 4 [(0, .ref 0), (1, .int x1), (2, .int x2), (3, .int x3)] (v.toList ++ []) h' Q))) : zz_J zp_P zt_tf zt_fd X (d + 1) zm_16 0 [(0, .ref 0), (1, .int x1), (2, .int x2), (3, .int x3)] [] h Q := by
  refine zz_J.n 1 rfl rfl rfl ?_
  refine zz_J.cl (M' := zm_21) 4 rfl rfl (by decide) rfl rfl ⟨rfl, Nat.le_of_ble_eq_true rfl⟩ rfl ?_
  refine zz_J.mono (k hR) ?_
  intro o h' hE
  cases o with
  | inl v => exact zz_J.weak hE rfl ⟨rfl, rfl, rfl, rfl, trivial⟩
  | inr q => exact hE
theorem cb_16_4 {X : Nat → Option zz_C} {h : zz_H} {t : cS} {s : mS} {d : Nat} {Q : zz_O → zz_H → Prop} {x1 : Int32} {x2 : Int32} {x3 : Int32} {y0 : Int32} (hR : kR h t s) (k1 : y0 = 0 → (∀ {h : zz_H}, kR h t s → zz_J zp_P zt_tf zt_fd X d zm_16 19 [] [] h Q)) (k2 : ¬ y0 = 0 → (∀ {h : zz_H}, kR h t s → zz_J zp_P zt_tf zt_fd X d zm_16 7 [(0, .ref 0), (1, .int x1), (2, .int x2), (3, .int x3)] [] h Q)) : zz_J zp_P zt_tf zt_fd X d zm_16 4 [(0, .ref 0), (1, .int x1), (2, .int x2), (3, .int x3)] [.int y0] h Q := by
  refine zz_J.b1 19 7 (A := y0 = 0) rfl rfl (by decide) rfl rfl (fun c => ?_) (fun c => ?_)
  · exact zz_J.weak (k1 c hR) rfl trivial
  · exact zz_J.weak (k2 c hR) rfl ⟨rfl, rfl, rfl, rfl, trivial⟩
theorem cb_16_7 {X : Nat → Option zz_C} {h : zz_H} {t : cS} {s : mS} {d : Nat} {Q : zz_O → zz_H → Prop} {x1 : Int32} {x2 : Int32} {x3 : Int32} (hR : kR h t s) {w0 : Nat} (e0 : (kP t 0 7) = some w0) (e1 : kH t w0 = true) (k : ∀ {h : zz_H}, kR h t s → zz_J zp_P zt_tf zt_fd X d zm_23 0 [(0, .ref w0), (1, .int x1)] [] h (zz_after 7 Q (fun v h' => zz_J zp_P zt_tf zt_fd X (d + 1) zm_16 15 [(0, .ref 0), (1, .int x1), (2, .int x2), (3, .int x3)] (v.toList ++ []) h' Q))) : zz_J zp_P zt_tf zt_fd X (d + 1) zm_16 7 [(0, .ref 0), (1, .int x1), (2, .int x2), (3, .int x3)] [] h Q := by
  refine zz_J.n 8 rfl rfl rfl ?_
  refine zz_J.g 11 rfl (hR.gv (v := .ref w0) ko_0 (by decide) ((congrArg (fun q => some (zz_rv q)) e0).trans rfl)) rfl ?_
  refine zz_J.n 12 rfl rfl rfl ?_
  refine zz_J.cv 15 (as := []) rfl rfl (hR.clS e1 (by decide)) (by decide) (Nat.le_of_ble_eq_true rfl) (Nat.le_of_ble_eq_true rfl) rfl (Nat.le_of_ble_eq_true rfl) rfl ?_
  refine zz_J.mono (k hR) ?_
  intro o h' hE
  cases o with
  | inl v => exact zz_J.weak hE rfl ⟨rfl, rfl, rfl, rfl, trivial⟩
  | inr q => exact hE
theorem cb_16_15 {X : Nat → Option zz_C} {h : zz_H} {t : cS} {s : mS} {d : Nat} {Q : zz_O → zz_H → Prop} {x1 : Int32} {x2 : Int32} {x3 : Int32} {y0 : Int32} (hR : kR h t s) (k1 : ¬ y0 = (-1) → (∀ {h : zz_H}, kR h t s → zz_J zp_P zt_tf zt_fd X d zm_16 21 [(0, .ref 0), (1, .int x1), (2, .int x2), (3, .int x3)] [] h Q)) (k2 : ¬ ¬ y0 = (-1) → (∀ {h : zz_H}, kR h t s → zz_J zp_P zt_tf zt_fd X d zm_16 19 [] [] h Q)) : zz_J zp_P zt_tf zt_fd X d zm_16 15 [(0, .ref 0), (1, .int x1), (2, .int x2), (3, .int x3)] [.int y0] h Q := by
  refine zz_J.c 16 (.int (-1)) rfl rfl rfl rfl ?_
  refine zz_J.b2 21 19 (A := ¬ y0 = (-1)) rfl (zz_cond_ne _ _) (by decide) rfl rfl (fun c => ?_) (fun c => ?_)
  · exact zz_J.weak (k1 c hR) rfl ⟨rfl, rfl, rfl, rfl, trivial⟩
  · exact zz_J.weak (k2 c hR) rfl trivial
theorem cb_16_19 {X : Nat → Option zz_C} {h : zz_H} {t : cS} {s : mS} {d : Nat} {Q : zz_O → zz_H → Prop}  (hR : kR h t s) (k : ∀ {h : zz_H}, kR h t s → Q (.inl (some (.int 0))) h) : zz_J zp_P zt_tf zt_fd X d zm_16 19 [] [] h Q := by
  refine zz_J.c 20 (.int 0) rfl rfl rfl rfl ?_
  refine zz_J.ret rfl rfl rfl ?_
  exact k hR
theorem cb_16_21 {X : Nat → Option zz_C} {h : zz_H} {t : cS} {s : mS} {d : Nat} {Q : zz_O → zz_H → Prop} {x1 : Int32} {x2 : Int32} {x3 : Int32} (hR : kR h t s) (k : ∀ {h : zz_H}, kR h t s → zz_J zp_P zt_tf zt_fd X d zm_251 0 [(0, .ref 0), (1, .int x1)] [] h (zz_after 12 Q (fun v h' => zz_J zp_P zt_tf zt_fd X (d + 1) zm_16 26 [(0, .ref 0), (2, .int x2), (3, .int x3)] (v.toList ++ []) h' Q))) : zz_J zp_P zt_tf zt_fd X (d + 1) zm_16 21 [(0, .ref 0), (1, .int x1), (2, .int x2), (3, .int x3)] [] h Q := by
  refine zz_J.n 22 rfl rfl rfl ?_
  refine zz_J.n 23 rfl rfl rfl ?_
  refine zz_J.cv 26 (as := []) rfl rfl (hR.clO ko_0 (by decide) (by decide)) (by decide) (Nat.le_of_ble_eq_true rfl) (Nat.le_of_ble_eq_true rfl) rfl (Nat.le_of_ble_eq_true rfl) rfl ?_
  refine zz_J.mono (k hR) ?_
  intro o h' hE
  cases o with
  | inl v => exact zz_J.weak hE rfl ⟨rfl, rfl, rfl, trivial⟩
  | inr q => exact hE
theorem cb_16_26 {X : Nat → Option zz_C} {h : zz_H} {t : cS} {s : mS} {d : Nat} {Q : zz_O → zz_H → Prop} {x2 : Int32} {x3 : Int32} {y0 : Int64} (hR : kR h t s) (k : ∀ {h : zz_H}, kR h t s → zz_J zp_P zt_tf zt_fd X d zm_255 0 [(0, .long y0)] [] h (zz_after 0 Q (fun v h' => zz_J zp_P zt_tf zt_fd X (d + 1) zm_16 33 [(0, .ref 0), (2, .int x2), (3, .int x3), (4, .long y0)] (v.toList ++ []) h' Q))) : zz_J zp_P zt_tf zt_fd X (d + 1) zm_16 26 [(0, .ref 0), (2, .int x2), (3, .int x3)] [.long y0] h Q := by
  refine zz_J.n 28 rfl rfl rfl ?_
  refine zz_J.n 30 rfl rfl rfl ?_
  refine zz_J.cl (M' := zm_255) 33 rfl rfl (by decide) rfl rfl ⟨rfl, Nat.le_of_ble_eq_true rfl⟩ rfl ?_
  refine zz_J.mono (k hR) ?_
  intro o h' hE
  cases o with
  | inl v => exact zz_J.weak hE rfl ⟨rfl, rfl, rfl, rfl, trivial⟩
  | inr q => exact hE
theorem cb_16_33 {X : Nat → Option zz_C} {h : zz_H} {t : cS} {s : mS} {d : Nat} {Q : zz_O → zz_H → Prop} {x2 : Int32} {x3 : Int32} {x4 : Int64} {y0 : Int32} (hR : kR h t s) (k1 : ¬ y0 = 0 → (∀ {h : zz_H}, kR h t s → zz_J zp_P zt_tf zt_fd X d zm_16 42 [(0, .ref 0), (2, .int x2), (3, .int x3), (4, .long x4)] [] h Q)) (k2 : ¬ ¬ y0 = 0 → (∀ {h : zz_H}, kR h t s → zz_J zp_P zt_tf zt_fd X d zm_16 36 [(4, .long x4)] [] h Q)) : zz_J zp_P zt_tf zt_fd X d zm_16 33 [(0, .ref 0), (2, .int x2), (3, .int x3), (4, .long x4)] [.int y0] h Q := by
  refine zz_J.b1 42 36 (A := ¬ y0 = 0) rfl (zz_cond_ne _ _) (by decide) rfl rfl (fun c => ?_) (fun c => ?_)
  · exact zz_J.weak (k1 c hR) rfl ⟨rfl, rfl, rfl, rfl, trivial⟩
  · exact zz_J.weak (k2 c hR) rfl ⟨rfl, trivial⟩
theorem cb_16_36 {X : Nat → Option zz_C} {h : zz_H} {t : cS} {s : mS} {d : Nat} {Q : zz_O → zz_H → Prop} {x4 : Int64} (hR : kR h t s) (k : ∀ {h : zz_H}, kR h t s → zz_J zp_P zt_tf zt_fd X d zm_256 0 [(0, .long x4)] [] h (zz_after 0 Q (fun v h' => zz_J zp_P zt_tf zt_fd X (d + 1) zm_16 41 [] (v.toList ++ []) h' Q))) : zz_J zp_P zt_tf zt_fd X (d + 1) zm_16 36 [(4, .long x4)] [] h Q := by
  refine zz_J.n 38 rfl rfl rfl ?_
  refine zz_J.cl (M' := zm_256) 41 rfl rfl (by decide) rfl rfl ⟨rfl, Nat.le_of_ble_eq_true rfl⟩ rfl ?_
  refine zz_J.mono (k hR) ?_
  intro o h' hE
  cases o with
  | inl v => exact zz_J.weak hE rfl trivial
  | inr q => exact hE
theorem cb_16_41 {X : Nat → Option zz_C} {h : zz_H} {t : cS} {s : mS} {d : Nat} {Q : zz_O → zz_H → Prop} {y0 : Int32} (hR : kR h t s) (k : ∀ {h : zz_H}, kR h t s → Q (.inl (some (.int y0))) h) : zz_J zp_P zt_tf zt_fd X d zm_16 41 [] [.int y0] h Q := by
  refine zz_J.ret rfl rfl rfl ?_
  exact k hR
theorem cb_16_42 {X : Nat → Option zz_C} {h : zz_H} {t : cS} {s : mS} {d : Nat} {Q : zz_O → zz_H → Prop} {x2 : Int32} {x3 : Int32} {x4 : Int64} (hR : kR h t s) (k1 : x2 < 0 → (∀ {h : zz_H}, kR h t s → zz_J zp_P zt_tf zt_fd X d zm_16 59 [] [] h Q)) (k2 : ¬ x2 < 0 → (∀ {h : zz_H}, kR h t s → zz_J zp_P zt_tf zt_fd X d zm_16 46 [(0, .ref 0), (2, .int x2), (3, .int x3), (4, .long x4)] [] h Q)) : zz_J zp_P zt_tf zt_fd X d zm_16 42 [(0, .ref 0), (2, .int x2), (3, .int x3), (4, .long x4)] [] h Q := by
  refine zz_J.n 43 rfl rfl rfl ?_
  refine zz_J.b1 59 46 (A := x2 < 0) rfl rfl (by decide) rfl rfl (fun c => ?_) (fun c => ?_)
  · exact zz_J.weak (k1 c hR) rfl trivial
  · exact zz_J.weak (k2 c hR) rfl ⟨rfl, rfl, rfl, rfl, trivial⟩
theorem cb_16_46 {X : Nat → Option zz_C} {h : zz_H} {t : cS} {s : mS} {d : Nat} {Q : zz_O → zz_H → Prop} {x2 : Int32} {x3 : Int32} {x4 : Int64} (hR : kR h t s) (k : ∀ {h : zz_H}, kR h t s → zz_J zp_P zt_tf zt_fd X d zm_128 0 [(0, .ref 42), (1, .long x4)] [] h (zz_after 2 Q (fun v h' => zz_J zp_P zt_tf zt_fd X (d + 1) zm_16 56 [(0, .ref 0), (2, .int x2), (3, .int x3), (4, .long x4)] (v.toList ++ [.int x2]) h' Q))) : zz_J zp_P zt_tf zt_fd X (d + 1) zm_16 46 [(0, .ref 0), (2, .int x2), (3, .int x3), (4, .long x4)] [] h Q := by
  refine zz_J.n 47 rfl rfl rfl ?_
  refine zz_J.n 48 rfl rfl rfl ?_
  refine zz_J.g 51 rfl (hR.gv (v := .ref 42) ko_0 (by decide) rfl) rfl ?_
  refine zz_J.n 53 rfl rfl rfl ?_
  refine zz_J.cv 56 (as := [.int x2]) rfl rfl (hR.clO ko_42 (by decide) (by decide)) (by decide) (Nat.le_of_ble_eq_true rfl) (Nat.le_of_ble_eq_true rfl) rfl (Nat.le_of_ble_eq_true rfl) rfl ?_
  refine zz_J.mono (k hR) ?_
  intro o h' hE
  cases o with
  | inl v => exact zz_J.weak hE rfl ⟨rfl, rfl, rfl, rfl, trivial⟩
  | inr q => exact hE
theorem cb_16_56 {X : Nat → Option zz_C} {h : zz_H} {t : cS} {s : mS} {d : Nat} {Q : zz_O → zz_H → Prop} {x2 : Int32} {x3 : Int32} {x4 : Int64} {y0 : Int32} {y1 : Int32} (hR : kR h t s) (k1 : y0 < y1 → (∀ {h : zz_H}, kR h t s → zz_J zp_P zt_tf zt_fd X d zm_16 61 [(0, .ref 0), (2, .int x2), (3, .int x3), (4, .long x4)] [] h Q)) (k2 : ¬ y0 < y1 → (∀ {h : zz_H}, kR h t s → zz_J zp_P zt_tf zt_fd X d zm_16 59 [] [] h Q)) : zz_J zp_P zt_tf zt_fd X d zm_16 56 [(0, .ref 0), (2, .int x2), (3, .int x3), (4, .long x4)] [.int y1, .int y0] h Q := by
  refine zz_J.b2 61 59 (A := y0 < y1) rfl rfl (by decide) rfl rfl (fun c => ?_) (fun c => ?_)
  · exact zz_J.weak (k1 c hR) rfl ⟨rfl, rfl, rfl, rfl, trivial⟩
  · exact zz_J.weak (k2 c hR) rfl trivial
theorem cb_16_59 {X : Nat → Option zz_C} {h : zz_H} {t : cS} {s : mS} {d : Nat} {Q : zz_O → zz_H → Prop}  (hR : kR h t s) (k : ∀ {h : zz_H}, kR h t s → Q (.inl (some (.int 0))) h) : zz_J zp_P zt_tf zt_fd X d zm_16 59 [] [] h Q := by
  refine zz_J.c 60 (.int 0) rfl rfl rfl rfl ?_
  refine zz_J.ret rfl rfl rfl ?_
  exact k hR
theorem cb_16_61 {X : Nat → Option zz_C} {h : zz_H} {t : cS} {s : mS} {d : Nat} {Q : zz_O → zz_H → Prop} {x2 : Int32} {x3 : Int32} {x4 : Int64} (hR : kR h t s) (k : ∀ {h : zz_H}, kR h t s → zz_J zp_P zt_tf zt_fd X d zm_129 0 [(0, .ref 42), (1, .long x4), (3, .int x2)] [] h (zz_after 2 Q (fun v h' => zz_J zp_P zt_tf zt_fd X (d + 1) zm_16 71 [(0, .ref 0), (3, .int x3)] (v.toList ++ []) h' Q))) : zz_J zp_P zt_tf zt_fd X (d + 1) zm_16 61 [(0, .ref 0), (2, .int x2), (3, .int x3), (4, .long x4)] [] h Q := by
  refine zz_J.n 62 rfl rfl rfl ?_
  refine zz_J.g 65 rfl (hR.gv (v := .ref 42) ko_0 (by decide) rfl) rfl ?_
  refine zz_J.n 67 rfl rfl rfl ?_
  refine zz_J.n 68 rfl rfl rfl ?_
  refine zz_J.cv 71 (as := []) rfl rfl (hR.clO ko_42 (by decide) (by decide)) (by decide) (Nat.le_of_ble_eq_true rfl) (Nat.le_of_ble_eq_true rfl) rfl (Nat.le_of_ble_eq_true rfl) rfl ?_
  refine zz_J.mono (k hR) ?_
  intro o h' hE
  cases o with
  | inl v => exact zz_J.weak hE rfl ⟨rfl, rfl, trivial⟩
  | inr q => exact hE
theorem cb_16_71 {X : Nat → Option zz_C} {h : zz_H} {t : cS} {s : mS} {d : Nat} {Q : zz_O → zz_H → Prop} {x3 : Int32} {y0 : Int64} (hR : kR h t s) (k : ∀ {h : zz_H}, kR h t s → zz_J zp_P zt_tf zt_fd X d zm_255 0 [(0, .long y0)] [] h (zz_after 0 Q (fun v h' => zz_J zp_P zt_tf zt_fd X (d + 1) zm_16 78 [(0, .ref 0), (3, .int x3), (6, .long y0)] (v.toList ++ []) h' Q))) : zz_J zp_P zt_tf zt_fd X (d + 1) zm_16 71 [(0, .ref 0), (3, .int x3)] [.long y0] h Q := by
  refine zz_J.n 73 rfl rfl rfl ?_
  refine zz_J.n 75 rfl rfl rfl ?_
  refine zz_J.cl (M' := zm_255) 78 rfl rfl (by decide) rfl rfl ⟨rfl, Nat.le_of_ble_eq_true rfl⟩ rfl ?_
  refine zz_J.mono (k hR) ?_
  intro o h' hE
  cases o with
  | inl v => exact zz_J.weak hE rfl ⟨rfl, rfl, rfl, trivial⟩
  | inr q => exact hE
theorem cb_16_78 {X : Nat → Option zz_C} {h : zz_H} {t : cS} {s : mS} {d : Nat} {Q : zz_O → zz_H → Prop} {x3 : Int32} {x6 : Int64} {y0 : Int32} (hR : kR h t s) (k1 : ¬ y0 = 0 → (∀ {h : zz_H}, kR h t s → zz_J zp_P zt_tf zt_fd X d zm_16 87 [(0, .ref 0), (3, .int x3), (6, .long x6)] [] h Q)) (k2 : ¬ ¬ y0 = 0 → (∀ {h : zz_H}, kR h t s → zz_J zp_P zt_tf zt_fd X d zm_16 81 [(6, .long x6)] [] h Q)) : zz_J zp_P zt_tf zt_fd X d zm_16 78 [(0, .ref 0), (3, .int x3), (6, .long x6)] [.int y0] h Q := by
  refine zz_J.b1 87 81 (A := ¬ y0 = 0) rfl (zz_cond_ne _ _) (by decide) rfl rfl (fun c => ?_) (fun c => ?_)
  · exact zz_J.weak (k1 c hR) rfl ⟨rfl, rfl, rfl, trivial⟩
  · exact zz_J.weak (k2 c hR) rfl ⟨rfl, trivial⟩
theorem cb_16_81 {X : Nat → Option zz_C} {h : zz_H} {t : cS} {s : mS} {d : Nat} {Q : zz_O → zz_H → Prop} {x6 : Int64} (hR : kR h t s) (k : ∀ {h : zz_H}, kR h t s → zz_J zp_P zt_tf zt_fd X d zm_256 0 [(0, .long x6)] [] h (zz_after 0 Q (fun v h' => zz_J zp_P zt_tf zt_fd X (d + 1) zm_16 86 [] (v.toList ++ []) h' Q))) : zz_J zp_P zt_tf zt_fd X (d + 1) zm_16 81 [(6, .long x6)] [] h Q := by
  refine zz_J.n 83 rfl rfl rfl ?_
  refine zz_J.cl (M' := zm_256) 86 rfl rfl (by decide) rfl rfl ⟨rfl, Nat.le_of_ble_eq_true rfl⟩ rfl ?_
  refine zz_J.mono (k hR) ?_
  intro o h' hE
  cases o with
  | inl v => exact zz_J.weak hE rfl trivial
  | inr q => exact hE
theorem cb_16_86 {X : Nat → Option zz_C} {h : zz_H} {t : cS} {s : mS} {d : Nat} {Q : zz_O → zz_H → Prop} {y0 : Int32} (hR : kR h t s) (k : ∀ {h : zz_H}, kR h t s → Q (.inl (some (.int y0))) h) : zz_J zp_P zt_tf zt_fd X d zm_16 86 [] [.int y0] h Q := by
  refine zz_J.ret rfl rfl rfl ?_
  exact k hR
theorem cb_16_87 {X : Nat → Option zz_C} {h : zz_H} {t : cS} {s : mS} {d : Nat} {Q : zz_O → zz_H → Prop} {x3 : Int32} {x6 : Int64} (hR : kR h t s) (k : ∀ {h : zz_H}, kR h t s → zz_J zp_P zt_tf zt_fd X d zm_255 0 [(0, .long x6)] [] h (zz_after 0 Q (fun v h' => zz_J zp_P zt_tf zt_fd X (d + 1) zm_16 92 [(0, .ref 0), (3, .int x3), (6, .long x6)] (v.toList ++ []) h' Q))) : zz_J zp_P zt_tf zt_fd X (d + 1) zm_16 87 [(0, .ref 0), (3, .int x3), (6, .long x6)] [] h Q := by
  refine zz_J.n 89 rfl rfl rfl ?_
  refine zz_J.cl (M' := zm_255) 92 rfl rfl (by decide) rfl rfl ⟨rfl, Nat.le_of_ble_eq_true rfl⟩ rfl ?_
  refine zz_J.mono (k hR) ?_
  intro o h' hE
  cases o with
  | inl v => exact zz_J.weak hE rfl ⟨rfl, rfl, rfl, trivial⟩
  | inr q => exact hE
theorem cb_16_92 {X : Nat → Option zz_C} {h : zz_H} {t : cS} {s : mS} {d : Nat} {Q : zz_O → zz_H → Prop} {x3 : Int32} {x6 : Int64} {y0 : Int32} (hR : kR h t s) (k1 : ¬ y0 = 1 → (∀ {h : zz_H}, kR h t s → zz_J zp_P zt_tf zt_fd X d zm_16 126 [] [] h Q)) (k2 : ¬ ¬ y0 = 1 → (∀ {h : zz_H}, kR h t s → zz_J zp_P zt_tf zt_fd X d zm_16 96 [(0, .ref 0), (3, .int x3), (6, .long x6)] [] h Q)) : zz_J zp_P zt_tf zt_fd X d zm_16 92 [(0, .ref 0), (3, .int x3), (6, .long x6)] [.int y0] h Q := by
  refine zz_J.c 93 (.int 1) rfl rfl rfl rfl ?_
  refine zz_J.b2 126 96 (A := ¬ y0 = 1) rfl (zz_cond_ne _ _) (by decide) rfl rfl (fun c => ?_) (fun c => ?_)
  · exact zz_J.weak (k1 c hR) rfl trivial
  · exact zz_J.weak (k2 c hR) rfl ⟨rfl, rfl, rfl, trivial⟩
theorem cb_16_96 {X : Nat → Option zz_C} {h : zz_H} {t : cS} {s : mS} {d : Nat} {Q : zz_O → zz_H → Prop} {x3 : Int32} {x6 : Int64} (hR : kR h t s) (k1 : x3 < 0 → (∀ {h : zz_H}, kR h t s → zz_J zp_P zt_tf zt_fd X d zm_16 126 [] [] h Q)) (k2 : ¬ x3 < 0 → (∀ {h : zz_H}, kR h t s → zz_J zp_P zt_tf zt_fd X d zm_16 100 [(0, .ref 0), (3, .int x3), (6, .long x6)] [] h Q)) : zz_J zp_P zt_tf zt_fd X d zm_16 96 [(0, .ref 0), (3, .int x3), (6, .long x6)] [] h Q := by
  refine zz_J.n 97 rfl rfl rfl ?_
  refine zz_J.b1 126 100 (A := x3 < 0) rfl rfl (by decide) rfl rfl (fun c => ?_) (fun c => ?_)
  · exact zz_J.weak (k1 c hR) rfl trivial
  · exact zz_J.weak (k2 c hR) rfl ⟨rfl, rfl, rfl, trivial⟩
theorem cb_16_100 {X : Nat → Option zz_C} {h : zz_H} {t : cS} {s : mS} {d : Nat} {Q : zz_O → zz_H → Prop} {x3 : Int32} {x6 : Int64} (hR : kR h t s) (k : ∀ {h : zz_H}, kR h t s → zz_J zp_P zt_tf zt_fd X d zm_128 0 [(0, .ref 42), (1, .long x6)] [] h (zz_after 2 Q (fun v h' => zz_J zp_P zt_tf zt_fd X (d + 1) zm_16 110 [(0, .ref 0), (3, .int x3), (6, .long x6)] (v.toList ++ [.int x3]) h' Q))) : zz_J zp_P zt_tf zt_fd X (d + 1) zm_16 100 [(0, .ref 0), (3, .int x3), (6, .long x6)] [] h Q := by
  refine zz_J.n 101 rfl rfl rfl ?_
  refine zz_J.n 102 rfl rfl rfl ?_
  refine zz_J.g 105 rfl (hR.gv (v := .ref 42) ko_0 (by decide) rfl) rfl ?_
  refine zz_J.n 107 rfl rfl rfl ?_
  refine zz_J.cv 110 (as := [.int x3]) rfl rfl (hR.clO ko_42 (by decide) (by decide)) (by decide) (Nat.le_of_ble_eq_true rfl) (Nat.le_of_ble_eq_true rfl) rfl (Nat.le_of_ble_eq_true rfl) rfl ?_
  refine zz_J.mono (k hR) ?_
  intro o h' hE
  cases o with
  | inl v => exact zz_J.weak hE rfl ⟨rfl, rfl, rfl, trivial⟩
  | inr q => exact hE
theorem cb_16_110 {X : Nat → Option zz_C} {h : zz_H} {t : cS} {s : mS} {d : Nat} {Q : zz_O → zz_H → Prop} {x3 : Int32} {x6 : Int64} {y0 : Int32} {y1 : Int32} (hR : kR h t s) (k1 : y1 ≤ y0 → (∀ {h : zz_H}, kR h t s → zz_J zp_P zt_tf zt_fd X d zm_16 126 [] [] h Q)) (k2 : ¬ y1 ≤ y0 → (∀ {h : zz_H}, kR h t s → zz_J zp_P zt_tf zt_fd X d zm_16 113 [(0, .ref 0), (3, .int x3), (6, .long x6)] [] h Q)) : zz_J zp_P zt_tf zt_fd X d zm_16 110 [(0, .ref 0), (3, .int x3), (6, .long x6)] [.int y1, .int y0] h Q := by
  refine zz_J.b2 126 113 (A := y1 ≤ y0) rfl rfl (by decide) rfl rfl (fun c => ?_) (fun c => ?_)
  · exact zz_J.weak (k1 c hR) rfl trivial
  · exact zz_J.weak (k2 c hR) rfl ⟨rfl, rfl, rfl, trivial⟩
theorem cb_16_113 {X : Nat → Option zz_C} {h : zz_H} {t : cS} {s : mS} {d : Nat} {Q : zz_O → zz_H → Prop} {x3 : Int32} {x6 : Int64} (hR : kR h t s) (k : ∀ {h : zz_H}, kR h t s → zz_J zp_P zt_tf zt_fd X d zm_130 0 [(0, .ref 42), (1, .long x6), (3, .int x3)] [] h (zz_after 2 Q (fun v h' => zz_J zp_P zt_tf zt_fd X (d + 1) zm_16 123 [] (v.toList ++ []) h' Q))) : zz_J zp_P zt_tf zt_fd X (d + 1) zm_16 113 [(0, .ref 0), (3, .int x3), (6, .long x6)] [] h Q := by
  refine zz_J.n 114 rfl rfl rfl ?_
  refine zz_J.g 117 rfl (hR.gv (v := .ref 42) ko_0 (by decide) rfl) rfl ?_
  refine zz_J.n 119 rfl rfl rfl ?_
  refine zz_J.n 120 rfl rfl rfl ?_
  refine zz_J.cv 123 (as := []) rfl rfl (hR.clO ko_42 (by decide) (by decide)) (by decide) (Nat.le_of_ble_eq_true rfl) (Nat.le_of_ble_eq_true rfl) rfl (Nat.le_of_ble_eq_true rfl) rfl ?_
  refine zz_J.mono (k hR) ?_
  intro o h' hE
  cases o with
  | inl v => exact zz_J.weak hE rfl trivial
  | inr q => exact hE
theorem cb_16_123 {X : Nat → Option zz_C} {h : zz_H} {t : cS} {s : mS} {d : Nat} {Q : zz_O → zz_H → Prop} {y0 : Int32} (hR : kR h t s) (k : ∀ {h : zz_H}, kR h t s → zz_J zp_P zt_tf zt_fd X d zm_16 127 [] [.int y0] h Q) : zz_J zp_P zt_tf zt_fd X d zm_16 123 [] [.int y0] h Q := by
  refine zz_J.n 127 rfl rfl rfl ?_
  exact zz_J.weak (k hR) rfl trivial
theorem cb_16_126 {X : Nat → Option zz_C} {h : zz_H} {t : cS} {s : mS} {d : Nat} {Q : zz_O → zz_H → Prop}  (hR : kR h t s) (k : ∀ {h : zz_H}, kR h t s → zz_J zp_P zt_tf zt_fd X d zm_16 127 [] [.int 0] h Q) : zz_J zp_P zt_tf zt_fd X d zm_16 126 [] [] h Q := by
  refine zz_J.c 127 (.int 0) rfl rfl rfl rfl ?_
  exact zz_J.weak (k hR) rfl trivial
theorem cb_16_127 {X : Nat → Option zz_C} {h : zz_H} {t : cS} {s : mS} {d : Nat} {Q : zz_O → zz_H → Prop} {y0 : Int32} (hR : kR h t s) (k : ∀ {h : zz_H}, kR h t s → Q (.inl (some (.int y0))) h) : zz_J zp_P zt_tf zt_fd X d zm_16 127 [] [.int y0] h Q := by
  refine zz_J.ret rfl rfl rfl ?_
  exact k hR
def cf_16_19 (N : Nat) (X : Nat → Option zz_C)  (t : cS) : kO := some (t, .inl (some (.int 0)))
theorem cr_16_19 {X : Nat → Option zz_C} {s : mS} {N : Nat} {d : Nat} (hd : 26 ≤ d) {Q : zz_O → zz_H → Prop}  {h : zz_H} {t t' : cS} {o : kY} (hR : kR h t s) (hf : cf_16_19 N X  t = some (t', o)) (k : (∀ h', kR h' t' s → kE o Q h')) : zz_J zp_P zt_tf zt_fd X d zm_16 19 [] [] h Q := by
  unfold cf_16_19 at hf
  cases hf
  exact cb_16_19 hR  (fun {h} hR => k h hR)
def cf_16_59 (N : Nat) (X : Nat → Option zz_C)  (t : cS) : kO := some (t, .inl (some (.int 0)))
theorem cr_16_59 {X : Nat → Option zz_C} {s : mS} {N : Nat} {d : Nat} (hd : 26 ≤ d) {Q : zz_O → zz_H → Prop}  {h : zz_H} {t t' : cS} {o : kY} (hR : kR h t s) (hf : cf_16_59 N X  t = some (t', o)) (k : (∀ h', kR h' t' s → kE o Q h')) : zz_J zp_P zt_tf zt_fd X d zm_16 59 [] [] h Q := by
  unfold cf_16_59 at hf
  cases hf
  exact cb_16_59 hR  (fun {h} hR => k h hR)
def cf_16_127 (N : Nat) (X : Nat → Option zz_C) (y0 : Int32) (t : cS) : kO := some (t, .inl (some (.int y0)))
theorem cr_16_127 {X : Nat → Option zz_C} {s : mS} {N : Nat} {d : Nat} (hd : 26 ≤ d) {Q : zz_O → zz_H → Prop} {y0 : Int32} {h : zz_H} {t t' : cS} {o : kY} (hR : kR h t s) (hf : cf_16_127 N X y0 t = some (t', o)) (k : (∀ h', kR h' t' s → kE o Q h')) : zz_J zp_P zt_tf zt_fd X d zm_16 127 [] [.int y0] h Q := by
  unfold cf_16_127 at hf
  cases hf
  exact cb_16_127 hR  (fun {h} hR => k h hR)
def cf_16_126 (N : Nat) (X : Nat → Option zz_C)  (t : cS) : kO := cf_16_127 N X 0 t
theorem cr_16_126 {X : Nat → Option zz_C} {s : mS} {N : Nat} {d : Nat} (hd : 26 ≤ d) {Q : zz_O → zz_H → Prop}  {h : zz_H} {t t' : cS} {o : kY} (hR : kR h t s) (hf : cf_16_126 N X  t = some (t', o)) (k : (∀ h', kR h' t' s → kE o Q h')) : zz_J zp_P zt_tf zt_fd X d zm_16 126 [] [] h Q := by
  unfold cf_16_126 at hf
  exact cb_16_126 hR  (fun hR => cr_16_127 hd hR hf k)
def cf_16_123 (N : Nat) (X : Nat → Option zz_C) (y0 : Int32) (t : cS) : kO := cf_16_127 N X y0 t
theorem cr_16_123 {X : Nat → Option zz_C} {s : mS} {N : Nat} {d : Nat} (hd : 26 ≤ d) {Q : zz_O → zz_H → Prop} {y0 : Int32} {h : zz_H} {t t' : cS} {o : kY} (hR : kR h t s) (hf : cf_16_123 N X y0 t = some (t', o)) (k : (∀ h', kR h' t' s → kE o Q h')) : zz_J zp_P zt_tf zt_fd X d zm_16 123 [] [.int y0] h Q := by
  unfold cf_16_123 at hf
  exact cb_16_123 hR  (fun hR => cr_16_127 hd hR hf k)
def cf_16_113 (N : Nat) (X : Nat → Option zz_C) (x3 : Int32) (x6 : Int64) (t : cS) : kO := ko_call 2 (cf_130 N X x6 x3 t) (fun g1 v1 => co_i v1 (fun y => cf_16_123 N X y g1))
theorem cr_16_113 {X : Nat → Option zz_C} {s : mS} {N : Nat} {d : Nat} (hd : 26 ≤ d) {Q : zz_O → zz_H → Prop} {x3 : Int32} {x6 : Int64} {h : zz_H} {t t' : cS} {o : kY} (hR : kR h t s) (hf : cf_16_113 N X x3 x6 t = some (t', o)) (k : (∀ h', kR h' t' s → kE o Q h')) : zz_J zp_P zt_tf zt_fd X d zm_16 113 [(0, .ref 0), (3, .int x3), (6, .long x6)] [] h Q := by
  unfold cf_16_113 at hf
  obtain ⟨d', rfl⟩ : ∃ d', d = d' + 1 := ⟨d - 1, by omega⟩
  refine cb_16_113 hR  (fun {h} hR => ?_)
  rcases ko_call_ok hf with ⟨g1, v1, er, hf⟩ | ⟨g1, er, hq⟩
  · obtain ⟨y, hv, hf2⟩ := co_i_ok hf
    clear hf
    have hf := hf2
    clear hf2
    subst hv
    refine cr_130 (by omega) hR er (fun h hR => ?_)
    exact cr_16_123 hd hR hf k
  · refine cr_130 (by omega) hR er (fun h hR => ?_)
    exact ko_thrown hq hR k
def cf_16_110 (N : Nat) (X : Nat → Option zz_C) (x3 : Int32) (x6 : Int64) (y0 : Int32) (y1 : Int32) (t : cS) : kO := if y1 ≤ y0 then cf_16_126 N X  t else cf_16_113 N X x3 x6 t
theorem cr_16_110 {X : Nat → Option zz_C} {s : mS} {N : Nat} {d : Nat} (hd : 26 ≤ d) {Q : zz_O → zz_H → Prop} {x3 : Int32} {x6 : Int64} {y0 : Int32} {y1 : Int32} {h : zz_H} {t t' : cS} {o : kY} (hR : kR h t s) (hf : cf_16_110 N X x3 x6 y0 y1 t = some (t', o)) (k : (∀ h', kR h' t' s → kE o Q h')) : zz_J zp_P zt_tf zt_fd X d zm_16 110 [(0, .ref 0), (3, .int x3), (6, .long x6)] [.int y1, .int y0] h Q := by
  unfold cf_16_110 at hf
  refine cb_16_110 hR  (fun c {h} hR => ?_) (fun c {h} hR => ?_)
  · rw [if_pos c] at hf
    exact cr_16_126 hd hR hf k
  · rw [if_neg c] at hf
    exact cr_16_113 hd hR hf k
def cf_16_100 (N : Nat) (X : Nat → Option zz_C) (x3 : Int32) (x6 : Int64) (t : cS) : kO := ko_call 2 (cf_128 N X x6 t) (fun g1 v1 => co_i v1 (fun y => cf_16_110 N X x3 x6 x3 y g1))
theorem cr_16_100 {X : Nat → Option zz_C} {s : mS} {N : Nat} {d : Nat} (hd : 26 ≤ d) {Q : zz_O → zz_H → Prop} {x3 : Int32} {x6 : Int64} {h : zz_H} {t t' : cS} {o : kY} (hR : kR h t s) (hf : cf_16_100 N X x3 x6 t = some (t', o)) (k : (∀ h', kR h' t' s → kE o Q h')) : zz_J zp_P zt_tf zt_fd X d zm_16 100 [(0, .ref 0), (3, .int x3), (6, .long x6)] [] h Q := by
  unfold cf_16_100 at hf
  obtain ⟨d', rfl⟩ : ∃ d', d = d' + 1 := ⟨d - 1, by omega⟩
  refine cb_16_100 hR  (fun {h} hR => ?_)
  rcases ko_call_ok hf with ⟨g1, v1, er, hf⟩ | ⟨g1, er, hq⟩
  · obtain ⟨y, hv, hf2⟩ := co_i_ok hf
    clear hf
    have hf := hf2
    clear hf2
    subst hv
    refine cr_128 (by omega) hR er (fun h hR => ?_)
    exact cr_16_110 hd hR hf k
  · refine cr_128 (by omega) hR er (fun h hR => ?_)
    exact ko_thrown hq hR k
def cf_16_96 (N : Nat) (X : Nat → Option zz_C) (x3 : Int32) (x6 : Int64) (t : cS) : kO := if x3 < 0 then cf_16_126 N X  t else cf_16_100 N X x3 x6 t
theorem cr_16_96 {X : Nat → Option zz_C} {s : mS} {N : Nat} {d : Nat} (hd : 26 ≤ d) {Q : zz_O → zz_H → Prop} {x3 : Int32} {x6 : Int64} {h : zz_H} {t t' : cS} {o : kY} (hR : kR h t s) (hf : cf_16_96 N X x3 x6 t = some (t', o)) (k : (∀ h', kR h' t' s → kE o Q h')) : zz_J zp_P zt_tf zt_fd X d zm_16 96 [(0, .ref 0), (3, .int x3), (6, .long x6)] [] h Q := by
  unfold cf_16_96 at hf
  refine cb_16_96 hR  (fun c {h} hR => ?_) (fun c {h} hR => ?_)
  · rw [if_pos c] at hf
    exact cr_16_126 hd hR hf k
  · rw [if_neg c] at hf
    exact cr_16_100 hd hR hf k
def cf_16_92 (N : Nat) (X : Nat → Option zz_C) (x3 : Int32) (x6 : Int64) (y0 : Int32) (t : cS) : kO := if ¬ y0 = 1 then cf_16_126 N X  t else cf_16_96 N X x3 x6 t
theorem cr_16_92 {X : Nat → Option zz_C} {s : mS} {N : Nat} {d : Nat} (hd : 26 ≤ d) {Q : zz_O → zz_H → Prop} {x3 : Int32} {x6 : Int64} {y0 : Int32} {h : zz_H} {t t' : cS} {o : kY} (hR : kR h t s) (hf : cf_16_92 N X x3 x6 y0 t = some (t', o)) (k : (∀ h', kR h' t' s → kE o Q h')) : zz_J zp_P zt_tf zt_fd X d zm_16 92 [(0, .ref 0), (3, .int x3), (6, .long x6)] [.int y0] h Q := by
  unfold cf_16_92 at hf
  refine cb_16_92 hR  (fun c {h} hR => ?_) (fun c {h} hR => ?_)
  · rw [if_pos c] at hf
    exact cr_16_126 hd hR hf k
  · rw [if_neg c] at hf
    exact cr_16_96 hd hR hf k
def cf_16_87 (N : Nat) (X : Nat → Option zz_C) (x3 : Int32) (x6 : Int64) (t : cS) : kO := ko_call 0 (cf_255 N X x6 t) (fun g1 v1 => co_i v1 (fun y => cf_16_92 N X x3 x6 y g1))
theorem cr_16_87 {X : Nat → Option zz_C} {s : mS} {N : Nat} {d : Nat} (hd : 26 ≤ d) {Q : zz_O → zz_H → Prop} {x3 : Int32} {x6 : Int64} {h : zz_H} {t t' : cS} {o : kY} (hR : kR h t s) (hf : cf_16_87 N X x3 x6 t = some (t', o)) (k : (∀ h', kR h' t' s → kE o Q h')) : zz_J zp_P zt_tf zt_fd X d zm_16 87 [(0, .ref 0), (3, .int x3), (6, .long x6)] [] h Q := by
  unfold cf_16_87 at hf
  obtain ⟨d', rfl⟩ : ∃ d', d = d' + 1 := ⟨d - 1, by omega⟩
  refine cb_16_87 hR  (fun {h} hR => ?_)
  rcases ko_call_ok hf with ⟨g1, v1, er, hf⟩ | ⟨g1, er, hq⟩
  · obtain ⟨y, hv, hf2⟩ := co_i_ok hf
    clear hf
    have hf := hf2
    clear hf2
    subst hv
    refine cr_255 (by omega) hR er (fun h hR => ?_)
    exact cr_16_92 hd hR hf k
  · refine cr_255 (by omega) hR er (fun h hR => ?_)
    exact ko_thrown hq hR k
def cf_16_86 (N : Nat) (X : Nat → Option zz_C) (y0 : Int32) (t : cS) : kO := some (t, .inl (some (.int y0)))
theorem cr_16_86 {X : Nat → Option zz_C} {s : mS} {N : Nat} {d : Nat} (hd : 26 ≤ d) {Q : zz_O → zz_H → Prop} {y0 : Int32} {h : zz_H} {t t' : cS} {o : kY} (hR : kR h t s) (hf : cf_16_86 N X y0 t = some (t', o)) (k : (∀ h', kR h' t' s → kE o Q h')) : zz_J zp_P zt_tf zt_fd X d zm_16 86 [] [.int y0] h Q := by
  unfold cf_16_86 at hf
  cases hf
  exact cb_16_86 hR  (fun {h} hR => k h hR)
def cf_16_81 (N : Nat) (X : Nat → Option zz_C) (x6 : Int64) (t : cS) : kO := ko_call 0 (cf_256 N X x6 t) (fun g1 v1 => co_i v1 (fun y => cf_16_86 N X y g1))
theorem cr_16_81 {X : Nat → Option zz_C} {s : mS} {N : Nat} {d : Nat} (hd : 26 ≤ d) {Q : zz_O → zz_H → Prop} {x6 : Int64} {h : zz_H} {t t' : cS} {o : kY} (hR : kR h t s) (hf : cf_16_81 N X x6 t = some (t', o)) (k : (∀ h', kR h' t' s → kE o Q h')) : zz_J zp_P zt_tf zt_fd X d zm_16 81 [(6, .long x6)] [] h Q := by
  unfold cf_16_81 at hf
  obtain ⟨d', rfl⟩ : ∃ d', d = d' + 1 := ⟨d - 1, by omega⟩
  refine cb_16_81 hR  (fun {h} hR => ?_)
  rcases ko_call_ok hf with ⟨g1, v1, er, hf⟩ | ⟨g1, er, hq⟩
  · obtain ⟨y, hv, hf2⟩ := co_i_ok hf
    clear hf
    have hf := hf2
    clear hf2
    subst hv
    refine cr_256 (by omega) hR er (fun h hR => ?_)
    exact cr_16_86 hd hR hf k
  · refine cr_256 (by omega) hR er (fun h hR => ?_)
    exact ko_thrown hq hR k
def cf_16_78 (N : Nat) (X : Nat → Option zz_C) (x3 : Int32) (x6 : Int64) (y0 : Int32) (t : cS) : kO := if ¬ y0 = 0 then cf_16_87 N X x3 x6 t else cf_16_81 N X x6 t
theorem cr_16_78 {X : Nat → Option zz_C} {s : mS} {N : Nat} {d : Nat} (hd : 26 ≤ d) {Q : zz_O → zz_H → Prop} {x3 : Int32} {x6 : Int64} {y0 : Int32} {h : zz_H} {t t' : cS} {o : kY} (hR : kR h t s) (hf : cf_16_78 N X x3 x6 y0 t = some (t', o)) (k : (∀ h', kR h' t' s → kE o Q h')) : zz_J zp_P zt_tf zt_fd X d zm_16 78 [(0, .ref 0), (3, .int x3), (6, .long x6)] [.int y0] h Q := by
  unfold cf_16_78 at hf
  refine cb_16_78 hR  (fun c {h} hR => ?_) (fun c {h} hR => ?_)
  · rw [if_pos c] at hf
    exact cr_16_87 hd hR hf k
  · rw [if_neg c] at hf
    exact cr_16_81 hd hR hf k
def cf_16_71 (N : Nat) (X : Nat → Option zz_C) (x3 : Int32) (y0 : Int64) (t : cS) : kO := ko_call 0 (cf_255 N X y0 t) (fun g1 v1 => co_i v1 (fun y => cf_16_78 N X x3 y0 y g1))
theorem cr_16_71 {X : Nat → Option zz_C} {s : mS} {N : Nat} {d : Nat} (hd : 26 ≤ d) {Q : zz_O → zz_H → Prop} {x3 : Int32} {y0 : Int64} {h : zz_H} {t t' : cS} {o : kY} (hR : kR h t s) (hf : cf_16_71 N X x3 y0 t = some (t', o)) (k : (∀ h', kR h' t' s → kE o Q h')) : zz_J zp_P zt_tf zt_fd X d zm_16 71 [(0, .ref 0), (3, .int x3)] [.long y0] h Q := by
  unfold cf_16_71 at hf
  obtain ⟨d', rfl⟩ : ∃ d', d = d' + 1 := ⟨d - 1, by omega⟩
  refine cb_16_71 hR  (fun {h} hR => ?_)
  rcases ko_call_ok hf with ⟨g1, v1, er, hf⟩ | ⟨g1, er, hq⟩
  · obtain ⟨y, hv, hf2⟩ := co_i_ok hf
    clear hf
    have hf := hf2
    clear hf2
    subst hv
    refine cr_255 (by omega) hR er (fun h hR => ?_)
    exact cr_16_78 hd hR hf k
  · refine cr_255 (by omega) hR er (fun h hR => ?_)
    exact ko_thrown hq hR k
def cf_16_61 (N : Nat) (X : Nat → Option zz_C) (x2 : Int32) (x3 : Int32) (x4 : Int64) (t : cS) : kO := ko_call 2 (cf_129 N X x4 x2 t) (fun g1 v1 => co_l v1 (fun y => cf_16_71 N X x3 y g1))
theorem cr_16_61 {X : Nat → Option zz_C} {s : mS} {N : Nat} {d : Nat} (hd : 26 ≤ d) {Q : zz_O → zz_H → Prop} {x2 : Int32} {x3 : Int32} {x4 : Int64} {h : zz_H} {t t' : cS} {o : kY} (hR : kR h t s) (hf : cf_16_61 N X x2 x3 x4 t = some (t', o)) (k : (∀ h', kR h' t' s → kE o Q h')) : zz_J zp_P zt_tf zt_fd X d zm_16 61 [(0, .ref 0), (2, .int x2), (3, .int x3), (4, .long x4)] [] h Q := by
  unfold cf_16_61 at hf
  obtain ⟨d', rfl⟩ : ∃ d', d = d' + 1 := ⟨d - 1, by omega⟩
  refine cb_16_61 hR  (fun {h} hR => ?_)
  rcases ko_call_ok hf with ⟨g1, v1, er, hf⟩ | ⟨g1, er, hq⟩
  · obtain ⟨y, hv, hf2⟩ := co_l_ok hf
    clear hf
    have hf := hf2
    clear hf2
    subst hv
    refine cr_129 (by omega) hR er (fun h hR => ?_)
    exact cr_16_71 hd hR hf k
  · refine cr_129 (by omega) hR er (fun h hR => ?_)
    exact ko_thrown hq hR k
def cf_16_56 (N : Nat) (X : Nat → Option zz_C) (x2 : Int32) (x3 : Int32) (x4 : Int64) (y0 : Int32) (y1 : Int32) (t : cS) : kO := if y0 < y1 then cf_16_61 N X x2 x3 x4 t else cf_16_59 N X  t
theorem cr_16_56 {X : Nat → Option zz_C} {s : mS} {N : Nat} {d : Nat} (hd : 26 ≤ d) {Q : zz_O → zz_H → Prop} {x2 : Int32} {x3 : Int32} {x4 : Int64} {y0 : Int32} {y1 : Int32} {h : zz_H} {t t' : cS} {o : kY} (hR : kR h t s) (hf : cf_16_56 N X x2 x3 x4 y0 y1 t = some (t', o)) (k : (∀ h', kR h' t' s → kE o Q h')) : zz_J zp_P zt_tf zt_fd X d zm_16 56 [(0, .ref 0), (2, .int x2), (3, .int x3), (4, .long x4)] [.int y1, .int y0] h Q := by
  unfold cf_16_56 at hf
  refine cb_16_56 hR  (fun c {h} hR => ?_) (fun c {h} hR => ?_)
  · rw [if_pos c] at hf
    exact cr_16_61 hd hR hf k
  · rw [if_neg c] at hf
    exact cr_16_59 hd hR hf k
def cf_16_46 (N : Nat) (X : Nat → Option zz_C) (x2 : Int32) (x3 : Int32) (x4 : Int64) (t : cS) : kO := ko_call 2 (cf_128 N X x4 t) (fun g1 v1 => co_i v1 (fun y => cf_16_56 N X x2 x3 x4 x2 y g1))
theorem cr_16_46 {X : Nat → Option zz_C} {s : mS} {N : Nat} {d : Nat} (hd : 26 ≤ d) {Q : zz_O → zz_H → Prop} {x2 : Int32} {x3 : Int32} {x4 : Int64} {h : zz_H} {t t' : cS} {o : kY} (hR : kR h t s) (hf : cf_16_46 N X x2 x3 x4 t = some (t', o)) (k : (∀ h', kR h' t' s → kE o Q h')) : zz_J zp_P zt_tf zt_fd X d zm_16 46 [(0, .ref 0), (2, .int x2), (3, .int x3), (4, .long x4)] [] h Q := by
  unfold cf_16_46 at hf
  obtain ⟨d', rfl⟩ : ∃ d', d = d' + 1 := ⟨d - 1, by omega⟩
  refine cb_16_46 hR  (fun {h} hR => ?_)
  rcases ko_call_ok hf with ⟨g1, v1, er, hf⟩ | ⟨g1, er, hq⟩
  · obtain ⟨y, hv, hf2⟩ := co_i_ok hf
    clear hf
    have hf := hf2
    clear hf2
    subst hv
    refine cr_128 (by omega) hR er (fun h hR => ?_)
    exact cr_16_56 hd hR hf k
  · refine cr_128 (by omega) hR er (fun h hR => ?_)
    exact ko_thrown hq hR k
def cf_16_42 (N : Nat) (X : Nat → Option zz_C) (x2 : Int32) (x3 : Int32) (x4 : Int64) (t : cS) : kO := if x2 < 0 then cf_16_59 N X  t else cf_16_46 N X x2 x3 x4 t
theorem cr_16_42 {X : Nat → Option zz_C} {s : mS} {N : Nat} {d : Nat} (hd : 26 ≤ d) {Q : zz_O → zz_H → Prop} {x2 : Int32} {x3 : Int32} {x4 : Int64} {h : zz_H} {t t' : cS} {o : kY} (hR : kR h t s) (hf : cf_16_42 N X x2 x3 x4 t = some (t', o)) (k : (∀ h', kR h' t' s → kE o Q h')) : zz_J zp_P zt_tf zt_fd X d zm_16 42 [(0, .ref 0), (2, .int x2), (3, .int x3), (4, .long x4)] [] h Q := by
  unfold cf_16_42 at hf
  refine cb_16_42 hR  (fun c {h} hR => ?_) (fun c {h} hR => ?_)
  · rw [if_pos c] at hf
    exact cr_16_59 hd hR hf k
  · rw [if_neg c] at hf
    exact cr_16_46 hd hR hf k
def cf_16_41 (N : Nat) (X : Nat → Option zz_C) (y0 : Int32) (t : cS) : kO := some (t, .inl (some (.int y0)))
theorem cr_16_41 {X : Nat → Option zz_C} {s : mS} {N : Nat} {d : Nat} (hd : 26 ≤ d) {Q : zz_O → zz_H → Prop} {y0 : Int32} {h : zz_H} {t t' : cS} {o : kY} (hR : kR h t s) (hf : cf_16_41 N X y0 t = some (t', o)) (k : (∀ h', kR h' t' s → kE o Q h')) : zz_J zp_P zt_tf zt_fd X d zm_16 41 [] [.int y0] h Q := by
  unfold cf_16_41 at hf
  cases hf
  exact cb_16_41 hR  (fun {h} hR => k h hR)
def cf_16_36 (N : Nat) (X : Nat → Option zz_C) (x4 : Int64) (t : cS) : kO := ko_call 0 (cf_256 N X x4 t) (fun g1 v1 => co_i v1 (fun y => cf_16_41 N X y g1))
theorem cr_16_36 {X : Nat → Option zz_C} {s : mS} {N : Nat} {d : Nat} (hd : 26 ≤ d) {Q : zz_O → zz_H → Prop} {x4 : Int64} {h : zz_H} {t t' : cS} {o : kY} (hR : kR h t s) (hf : cf_16_36 N X x4 t = some (t', o)) (k : (∀ h', kR h' t' s → kE o Q h')) : zz_J zp_P zt_tf zt_fd X d zm_16 36 [(4, .long x4)] [] h Q := by
  unfold cf_16_36 at hf
  obtain ⟨d', rfl⟩ : ∃ d', d = d' + 1 := ⟨d - 1, by omega⟩
  refine cb_16_36 hR  (fun {h} hR => ?_)
  rcases ko_call_ok hf with ⟨g1, v1, er, hf⟩ | ⟨g1, er, hq⟩
  · obtain ⟨y, hv, hf2⟩ := co_i_ok hf
    clear hf
    have hf := hf2
    clear hf2
    subst hv
    refine cr_256 (by omega) hR er (fun h hR => ?_)
    exact cr_16_41 hd hR hf k
  · refine cr_256 (by omega) hR er (fun h hR => ?_)
    exact ko_thrown hq hR k
def cf_16_33 (N : Nat) (X : Nat → Option zz_C) (x2 : Int32) (x3 : Int32) (x4 : Int64) (y0 : Int32) (t : cS) : kO := if ¬ y0 = 0 then cf_16_42 N X x2 x3 x4 t else cf_16_36 N X x4 t
theorem cr_16_33 {X : Nat → Option zz_C} {s : mS} {N : Nat} {d : Nat} (hd : 26 ≤ d) {Q : zz_O → zz_H → Prop} {x2 : Int32} {x3 : Int32} {x4 : Int64} {y0 : Int32} {h : zz_H} {t t' : cS} {o : kY} (hR : kR h t s) (hf : cf_16_33 N X x2 x3 x4 y0 t = some (t', o)) (k : (∀ h', kR h' t' s → kE o Q h')) : zz_J zp_P zt_tf zt_fd X d zm_16 33 [(0, .ref 0), (2, .int x2), (3, .int x3), (4, .long x4)] [.int y0] h Q := by
  unfold cf_16_33 at hf
  refine cb_16_33 hR  (fun c {h} hR => ?_) (fun c {h} hR => ?_)
  · rw [if_pos c] at hf
    exact cr_16_42 hd hR hf k
  · rw [if_neg c] at hf
    exact cr_16_36 hd hR hf k
def cf_16_26 (N : Nat) (X : Nat → Option zz_C) (x2 : Int32) (x3 : Int32) (y0 : Int64) (t : cS) : kO := ko_call 0 (cf_255 N X y0 t) (fun g1 v1 => co_i v1 (fun y => cf_16_33 N X x2 x3 y0 y g1))
theorem cr_16_26 {X : Nat → Option zz_C} {s : mS} {N : Nat} {d : Nat} (hd : 26 ≤ d) {Q : zz_O → zz_H → Prop} {x2 : Int32} {x3 : Int32} {y0 : Int64} {h : zz_H} {t t' : cS} {o : kY} (hR : kR h t s) (hf : cf_16_26 N X x2 x3 y0 t = some (t', o)) (k : (∀ h', kR h' t' s → kE o Q h')) : zz_J zp_P zt_tf zt_fd X d zm_16 26 [(0, .ref 0), (2, .int x2), (3, .int x3)] [.long y0] h Q := by
  unfold cf_16_26 at hf
  obtain ⟨d', rfl⟩ : ∃ d', d = d' + 1 := ⟨d - 1, by omega⟩
  refine cb_16_26 hR  (fun {h} hR => ?_)
  rcases ko_call_ok hf with ⟨g1, v1, er, hf⟩ | ⟨g1, er, hq⟩
  · obtain ⟨y, hv, hf2⟩ := co_i_ok hf
    clear hf
    have hf := hf2
    clear hf2
    subst hv
    refine cr_255 (by omega) hR er (fun h hR => ?_)
    exact cr_16_33 hd hR hf k
  · refine cr_255 (by omega) hR er (fun h hR => ?_)
    exact ko_thrown hq hR k
def cf_16_21 (N : Nat) (X : Nat → Option zz_C) (x1 : Int32) (x2 : Int32) (x3 : Int32) (t : cS) : kO := ko_call 12 (cf_251 N X x1 t) (fun g1 v1 => co_l v1 (fun y => cf_16_26 N X x2 x3 y g1))
theorem cr_16_21 {X : Nat → Option zz_C} {s : mS} {N : Nat} {d : Nat} (hd : 26 ≤ d) {Q : zz_O → zz_H → Prop} {x1 : Int32} {x2 : Int32} {x3 : Int32} {h : zz_H} {t t' : cS} {o : kY} (hR : kR h t s) (hf : cf_16_21 N X x1 x2 x3 t = some (t', o)) (k : (∀ h', kR h' t' s → kE o Q h')) : zz_J zp_P zt_tf zt_fd X d zm_16 21 [(0, .ref 0), (1, .int x1), (2, .int x2), (3, .int x3)] [] h Q := by
  unfold cf_16_21 at hf
  obtain ⟨d', rfl⟩ : ∃ d', d = d' + 1 := ⟨d - 1, by omega⟩
  refine cb_16_21 hR  (fun {h} hR => ?_)
  rcases ko_call_ok hf with ⟨g1, v1, er, hf⟩ | ⟨g1, er, hq⟩
  · obtain ⟨y, hv, hf2⟩ := co_l_ok hf
    clear hf
    have hf := hf2
    clear hf2
    subst hv
    refine cr_251 (by omega) hR er (fun h hR => ?_)
    exact cr_16_26 hd hR hf k
  · refine cr_251 (by omega) hR er (fun h hR => ?_)
    exact ko_thrown hq hR k
def cf_16_15 (N : Nat) (X : Nat → Option zz_C) (x1 : Int32) (x2 : Int32) (x3 : Int32) (y0 : Int32) (t : cS) : kO := if ¬ y0 = (-1) then cf_16_21 N X x1 x2 x3 t else cf_16_19 N X  t
theorem cr_16_15 {X : Nat → Option zz_C} {s : mS} {N : Nat} {d : Nat} (hd : 26 ≤ d) {Q : zz_O → zz_H → Prop} {x1 : Int32} {x2 : Int32} {x3 : Int32} {y0 : Int32} {h : zz_H} {t t' : cS} {o : kY} (hR : kR h t s) (hf : cf_16_15 N X x1 x2 x3 y0 t = some (t', o)) (k : (∀ h', kR h' t' s → kE o Q h')) : zz_J zp_P zt_tf zt_fd X d zm_16 15 [(0, .ref 0), (1, .int x1), (2, .int x2), (3, .int x3)] [.int y0] h Q := by
  unfold cf_16_15 at hf
  refine cb_16_15 hR  (fun c {h} hR => ?_) (fun c {h} hR => ?_)
  · rw [if_pos c] at hf
    exact cr_16_21 hd hR hf k
  · rw [if_neg c] at hf
    exact cr_16_19 hd hR hf k
def cf_16_7 (N : Nat) (X : Nat → Option zz_C) (x1 : Int32) (x2 : Int32) (x3 : Int32) (t : cS) : kO := co_b ((kP t 0 7)) (fun w0 => if kH t w0 = true then (ko_call 7 (cf_23 N X w0 x1 t) (fun g1 v1 => co_i v1 (fun y => cf_16_15 N X x1 x2 x3 y g1))) else none)
theorem cr_16_7 {X : Nat → Option zz_C} {s : mS} {N : Nat} {d : Nat} (hd : 26 ≤ d) {Q : zz_O → zz_H → Prop} {x1 : Int32} {x2 : Int32} {x3 : Int32} {h : zz_H} {t t' : cS} {o : kY} (hR : kR h t s) (hf : cf_16_7 N X x1 x2 x3 t = some (t', o)) (k : (∀ h', kR h' t' s → kE o Q h')) : zz_J zp_P zt_tf zt_fd X d zm_16 7 [(0, .ref 0), (1, .int x1), (2, .int x2), (3, .int x3)] [] h Q := by
  unfold cf_16_7 at hf
  obtain ⟨w0, e0, hf⟩ := co_b_ok hf
  obtain ⟨e1, hf⟩ := ko_if hf
  obtain ⟨d', rfl⟩ : ∃ d', d = d' + 1 := ⟨d - 1, by omega⟩
  refine cb_16_7 hR e0 e1 (fun {h} hR => ?_)
  rcases ko_call_ok hf with ⟨g1, v1, er, hf⟩ | ⟨g1, er, hq⟩
  · obtain ⟨y, hv, hf2⟩ := co_i_ok hf
    clear hf
    have hf := hf2
    clear hf2
    subst hv
    refine cr_23 (by omega) hR er (fun h hR => ?_)
    exact cr_16_15 hd hR hf k
  · refine cr_23 (by omega) hR er (fun h hR => ?_)
    exact ko_thrown hq hR k
def cf_16_4 (N : Nat) (X : Nat → Option zz_C) (x1 : Int32) (x2 : Int32) (x3 : Int32) (y0 : Int32) (t : cS) : kO := if y0 = 0 then cf_16_19 N X  t else cf_16_7 N X x1 x2 x3 t
theorem cr_16_4 {X : Nat → Option zz_C} {s : mS} {N : Nat} {d : Nat} (hd : 26 ≤ d) {Q : zz_O → zz_H → Prop} {x1 : Int32} {x2 : Int32} {x3 : Int32} {y0 : Int32} {h : zz_H} {t t' : cS} {o : kY} (hR : kR h t s) (hf : cf_16_4 N X x1 x2 x3 y0 t = some (t', o)) (k : (∀ h', kR h' t' s → kE o Q h')) : zz_J zp_P zt_tf zt_fd X d zm_16 4 [(0, .ref 0), (1, .int x1), (2, .int x2), (3, .int x3)] [.int y0] h Q := by
  unfold cf_16_4 at hf
  refine cb_16_4 hR  (fun c {h} hR => ?_) (fun c {h} hR => ?_)
  · rw [if_pos c] at hf
    exact cr_16_19 hd hR hf k
  · rw [if_neg c] at hf
    exact cr_16_7 hd hR hf k
def cf_16_0 (N : Nat) (X : Nat → Option zz_C) (x1 : Int32) (x2 : Int32) (x3 : Int32) (t : cS) : kO := ko_call 0 (cf_21 N X x1 t) (fun g1 v1 => co_i v1 (fun y => cf_16_4 N X x1 x2 x3 y g1))
theorem cr_16_0 {X : Nat → Option zz_C} {s : mS} {N : Nat} {d : Nat} (hd : 26 ≤ d) {Q : zz_O → zz_H → Prop} {x1 : Int32} {x2 : Int32} {x3 : Int32} {h : zz_H} {t t' : cS} {o : kY} (hR : kR h t s) (hf : cf_16_0 N X x1 x2 x3 t = some (t', o)) (k : (∀ h', kR h' t' s → kE o Q h')) : zz_J zp_P zt_tf zt_fd X d zm_16 0 [(0, .ref 0), (1, .int x1), (2, .int x2), (3, .int x3)] [] h Q := by
  unfold cf_16_0 at hf
  obtain ⟨d', rfl⟩ : ∃ d', d = d' + 1 := ⟨d - 1, by omega⟩
  refine cb_16_0 hR  (fun {h} hR => ?_)
  rcases ko_call_ok hf with ⟨g1, v1, er, hf⟩ | ⟨g1, er, hq⟩
  · obtain ⟨y, hv, hf2⟩ := co_i_ok hf
    clear hf
    have hf := hf2
    clear hf2
    subst hv
    refine cr_21 (by omega) hR er (fun h hR => ?_)
    exact cr_16_4 hd hR hf k
  · refine cr_21 (by omega) hR er (fun h hR => ?_)
    exact ko_thrown hq hR k
/-- cell -/
def cf_16 (N : Nat) (X : Nat → Option zz_C) (x1 : Int32) (x2 : Int32) (x3 : Int32) (t : cS) : kO := cf_16_0 N X x1 x2 x3 t
theorem cr_16 {X : Nat → Option zz_C} {s : mS} {N : Nat} {d : Nat} (hd : 26 ≤ d) {Q : zz_O → zz_H → Prop} {x1 : Int32} {x2 : Int32} {x3 : Int32} {h : zz_H} {t t' : cS} {o : kY} (hR : kR h t s) (hf : cf_16 N X x1 x2 x3 t = some (t', o)) (k : ∀ h', kR h' t' s → kE o Q h') : zz_J zp_P zt_tf zt_fd X d zm_16 0 [(0, .ref 0), (1, .int x1), (2, .int x2), (3, .int x3)] [] h Q := by
  unfold cf_16 at hf
  exact zz_J.weak (cr_16_0 hd hR hf k) rfl ⟨rfl, rfl, rfl, rfl, trivial⟩
/-! yX7_alike (II)Z -/
theorem cb_27_0 {X : Nat → Option zz_C} {h : zz_H} {t : cS} {s : mS} {d : Nat} {Q : zz_O → zz_H → Prop} {x0 : Nat} {x1 : Int32} {x2 : Int32} (hR : kR h t s) (e0 : kH t x0 = true) (e1 : ¬ (x1 < 0 ∨ (kA t (2000000 + 20 * x0 + 10)).1 ≤ (Int32.toNatClampNeg x1))) (e2 : ¬ (x2 < 0 ∨ (kA t (2000000 + 20 * x0 + 10)).1 ≤ (Int32.toNatClampNeg x2))) (k1 : ¬ ((kA t (2000000 + 20 * x0 + 10)).2 (Int32.toNatClampNeg x1)) = ((kA t (2000000 + 20 * x0 + 10)).2 (Int32.toNatClampNeg x2)) → (∀ {h : zz_H}, kR h t s → zz_J zp_P zt_tf zt_fd X d zm_27 19 [(0, .ref x0), (1, .int x1), (2, .int x2)] [] h Q)) (k2 : ¬ ¬ ((kA t (2000000 + 20 * x0 + 10)).2 (Int32.toNatClampNeg x1)) = ((kA t (2000000 + 20 * x0 + 10)).2 (Int32.toNatClampNeg x2)) → (∀ {h : zz_H}, kR h t s → zz_J zp_P zt_tf zt_fd X d zm_27 15 [(0, .ref x0), (1, .int x1), (2, .int x2)] [] h Q)) : zz_J zp_P zt_tf zt_fd X d zm_27 0 [(0, .ref x0), (1, .int x1), (2, .int x2)] [] h Q := by
  refine zz_J.n 1 rfl rfl rfl ?_
  refine zz_J.g 4 rfl (hR.gvS (v := .ref (kD t (2000000 + 20 * x0 + 10))) e0 rfl) rfl ?_
  refine zz_J.n 5 rfl rfl rfl ?_
  refine zz_J.ai 6 rfl (hR.ai (w := ((kA t (2000000 + 20 * x0 + 10)).2 (Int32.toNatClampNeg x1))) (ka_S10 e0) rfl e1 rfl) rfl ?_
  refine zz_J.n 7 rfl rfl rfl ?_
  refine zz_J.g 10 rfl (hR.gvS (v := .ref (kD t (2000000 + 20 * x0 + 10))) e0 rfl) rfl ?_
  refine zz_J.n 11 rfl rfl rfl ?_
  refine zz_J.ai 12 rfl (hR.ai (w := ((kA t (2000000 + 20 * x0 + 10)).2 (Int32.toNatClampNeg x2))) (ka_S10 e0) rfl e2 rfl) rfl ?_
  refine zz_J.b2 19 15 (A := ¬ ((kA t (2000000 + 20 * x0 + 10)).2 (Int32.toNatClampNeg x1)) = ((kA t (2000000 + 20 * x0 + 10)).2 (Int32.toNatClampNeg x2))) rfl (zz_cond_ne _ _) (by decide) rfl rfl (fun c => ?_) (fun c => ?_)
  · exact zz_J.weak (k1 c hR) rfl ⟨rfl, rfl, rfl, trivial⟩
  · exact zz_J.weak (k2 c hR) rfl ⟨rfl, rfl, rfl, trivial⟩
theorem cb_27_15 {X : Nat → Option zz_C} {h : zz_H} {t : cS} {s : mS} {d : Nat} {Q : zz_O → zz_H → Prop} {x0 : Nat} {x1 : Int32} {x2 : Int32} (hR : kR h t s) (k : ∀ {h : zz_H}, kR h t s → zz_J zp_P zt_tf zt_fd X d zm_27 20 [(0, .ref x0), (1, .int x1), (2, .int x2)] [.int 1] h Q) : zz_J zp_P zt_tf zt_fd X d zm_27 15 [(0, .ref x0), (1, .int x1), (2, .int x2)] [] h Q := by
  refine zz_J.c 16 (.int 1) rfl rfl rfl rfl ?_
  refine zz_J.n 20 rfl rfl rfl ?_
  exact zz_J.weak (k hR) rfl ⟨rfl, rfl, rfl, trivial⟩
theorem cb_27_19 {X : Nat → Option zz_C} {h : zz_H} {t : cS} {s : mS} {d : Nat} {Q : zz_O → zz_H → Prop} {x0 : Nat} {x1 : Int32} {x2 : Int32} (hR : kR h t s) (k : ∀ {h : zz_H}, kR h t s → zz_J zp_P zt_tf zt_fd X d zm_27 20 [(0, .ref x0), (1, .int x1), (2, .int x2)] [.int 0] h Q) : zz_J zp_P zt_tf zt_fd X d zm_27 19 [(0, .ref x0), (1, .int x1), (2, .int x2)] [] h Q := by
  refine zz_J.c 20 (.int 0) rfl rfl rfl rfl ?_
  exact zz_J.weak (k hR) rfl ⟨rfl, rfl, rfl, trivial⟩
theorem cb_27_20 {X : Nat → Option zz_C} {h : zz_H} {t : cS} {s : mS} {d : Nat} {Q : zz_O → zz_H → Prop} {x0 : Nat} {x1 : Int32} {x2 : Int32} {y0 : Int32} (hR : kR h t s) (k : ∀ {h : zz_H}, kR h t s → zz_J zp_P zt_tf zt_fd X d zm_27 24 [(0, .ref x0), (1, .int x1), (2, .int x2), (3, .int y0), (4, .int 0)] [] h Q) : zz_J zp_P zt_tf zt_fd X d zm_27 20 [(0, .ref x0), (1, .int x1), (2, .int x2)] [.int y0] h Q := by
  refine zz_J.n 21 rfl rfl rfl ?_
  refine zz_J.c 22 (.int 0) rfl rfl rfl rfl ?_
  refine zz_J.n 24 rfl rfl rfl ?_
  exact zz_J.weak (k hR) rfl ⟨rfl, rfl, rfl, rfl, rfl, trivial⟩
theorem cb_27_24 {X : Nat → Option zz_C} {h : zz_H} {t : cS} {s : mS} {d : Nat} {Q : zz_O → zz_H → Prop} {x0 : Nat} {x1 : Int32} {x2 : Int32} {x3 : Int32} {x4 : Int32} (hR : kR h t s) (e0 : kH t x0 = true) (e1 : ¬ (x1 < 0 ∨ (kA t (2000000 + 20 * x0 + 10)).1 ≤ (Int32.toNatClampNeg x1))) (k1 : ((kA t (2000000 + 20 * x0 + 10)).2 (Int32.toNatClampNeg x1)) ≤ x4 → (∀ {h : zz_H}, kR h t s → zz_J zp_P zt_tf zt_fd X d zm_27 72 [(3, .int x3)] [] h Q)) (k2 : ¬ ((kA t (2000000 + 20 * x0 + 10)).2 (Int32.toNatClampNeg x1)) ≤ x4 → (∀ {h : zz_H}, kR h t s → zz_J zp_P zt_tf zt_fd X d zm_27 35 [(0, .ref x0), (1, .int x1), (2, .int x2), (3, .int x3), (4, .int x4)] [] h Q)) : zz_J zp_P zt_tf zt_fd X d zm_27 24 [(0, .ref x0), (1, .int x1), (2, .int x2), (3, .int x3), (4, .int x4)] [] h Q := by
  refine zz_J.n 26 rfl rfl rfl ?_
  refine zz_J.n 27 rfl rfl rfl ?_
  refine zz_J.g 30 rfl (hR.gvS (v := .ref (kD t (2000000 + 20 * x0 + 10))) e0 rfl) rfl ?_
  refine zz_J.n 31 rfl rfl rfl ?_
  refine zz_J.ai 32 rfl (hR.ai (w := ((kA t (2000000 + 20 * x0 + 10)).2 (Int32.toNatClampNeg x1))) (ka_S10 e0) rfl e1 rfl) rfl ?_
  refine zz_J.b2 72 35 (A := ((kA t (2000000 + 20 * x0 + 10)).2 (Int32.toNatClampNeg x1)) ≤ x4) rfl rfl (by decide) rfl rfl (fun c => ?_) (fun c => ?_)
  · exact zz_J.weak (k1 c hR) rfl ⟨rfl, trivial⟩
  · exact zz_J.weak (k2 c hR) rfl ⟨rfl, rfl, rfl, rfl, rfl, trivial⟩
theorem cb_27_35 {X : Nat → Option zz_C} {h : zz_H} {t : cS} {s : mS} {d : Nat} {Q : zz_O → zz_H → Prop} {x0 : Nat} {x1 : Int32} {x2 : Int32} {x3 : Int32} {x4 : Int32} (hR : kR h t s) (k1 : x3 = 0 → (∀ {h : zz_H}, kR h t s → zz_J zp_P zt_tf zt_fd X d zm_27 72 [(3, .int x3)] [] h Q)) (k2 : ¬ x3 = 0 → (∀ {h : zz_H}, kR h t s → zz_J zp_P zt_tf zt_fd X d zm_27 39 [(0, .ref x0), (1, .int x1), (2, .int x2), (4, .int x4)] [] h Q)) : zz_J zp_P zt_tf zt_fd X d zm_27 35 [(0, .ref x0), (1, .int x1), (2, .int x2), (3, .int x3), (4, .int x4)] [] h Q := by
  refine zz_J.n 36 rfl rfl rfl ?_
  refine zz_J.b1 72 39 (A := x3 = 0) rfl rfl (by decide) rfl rfl (fun c => ?_) (fun c => ?_)
  · exact zz_J.weak (k1 c hR) rfl ⟨rfl, trivial⟩
  · exact zz_J.weak (k2 c hR) rfl ⟨rfl, rfl, rfl, rfl, trivial⟩
theorem cb_27_39 {X : Nat → Option zz_C} {h : zz_H} {t : cS} {s : mS} {d : Nat} {Q : zz_O → zz_H → Prop} {x0 : Nat} {x1 : Int32} {x2 : Int32} {x4 : Int32} (hR : kR h t s) (e0 : kH t x0 = true) (e1 : ¬ (x1 < 0 ∨ 8 ≤ (Int32.toNatClampNeg x1))) (e2 : ¬ (x4 < 0 ∨ (kA t (2000000 + 20 * x0 + 1 + 1 + (Int32.toNatClampNeg x1))).1 ≤ (Int32.toNatClampNeg x4))) (e3 : ¬ (x2 < 0 ∨ 8 ≤ (Int32.toNatClampNeg x2))) (e4 : ¬ (x4 < 0 ∨ (kA t (2000000 + 20 * x0 + 1 + 1 + (Int32.toNatClampNeg x2))).1 ≤ (Int32.toNatClampNeg x4))) (k1 : ¬ ((kA t (2000000 + 20 * x0 + 1 + 1 + (Int32.toNatClampNeg x1))).2 (Int32.toNatClampNeg x4)) = ((kA t (2000000 + 20 * x0 + 1 + 1 + (Int32.toNatClampNeg x2))).2 (Int32.toNatClampNeg x4)) → (∀ {h : zz_H}, kR h t s → zz_J zp_P zt_tf zt_fd X d zm_27 64 [(0, .ref x0), (1, .int x1), (2, .int x2), (4, .int x4)] [] h Q)) (k2 : ¬ ¬ ((kA t (2000000 + 20 * x0 + 1 + 1 + (Int32.toNatClampNeg x1))).2 (Int32.toNatClampNeg x4)) = ((kA t (2000000 + 20 * x0 + 1 + 1 + (Int32.toNatClampNeg x2))).2 (Int32.toNatClampNeg x4)) → (∀ {h : zz_H}, kR h t s → zz_J zp_P zt_tf zt_fd X d zm_27 60 [(0, .ref x0), (1, .int x1), (2, .int x2), (4, .int x4)] [] h Q)) : zz_J zp_P zt_tf zt_fd X d zm_27 39 [(0, .ref x0), (1, .int x1), (2, .int x2), (4, .int x4)] [] h Q := by
  refine zz_J.n 40 rfl rfl rfl ?_
  refine zz_J.g 43 rfl (hR.gvS (v := .ref (kD t (2000000 + 20 * x0 + 1))) e0 rfl) rfl ?_
  refine zz_J.n 44 rfl rfl rfl ?_
  refine zz_J.ar 45 rfl (hR.arS e0 e1) rfl ?_
  refine zz_J.n 47 rfl rfl rfl ?_
  refine zz_J.ai 48 rfl (hR.ai (w := ((kA t (2000000 + 20 * x0 + 1 + 1 + (Int32.toNatClampNeg x1))).2 (Int32.toNatClampNeg x4))) (ka_Sr e0 e1) rfl e2 rfl) rfl ?_
  refine zz_J.n 49 rfl rfl rfl ?_
  refine zz_J.g 52 rfl (hR.gvS (v := .ref (kD t (2000000 + 20 * x0 + 1))) e0 rfl) rfl ?_
  refine zz_J.n 53 rfl rfl rfl ?_
  refine zz_J.ar 54 rfl (hR.arS e0 e3) rfl ?_
  refine zz_J.n 56 rfl rfl rfl ?_
  refine zz_J.ai 57 rfl (hR.ai (w := ((kA t (2000000 + 20 * x0 + 1 + 1 + (Int32.toNatClampNeg x2))).2 (Int32.toNatClampNeg x4))) (ka_Sr e0 e3) rfl e4 rfl) rfl ?_
  refine zz_J.b2 64 60 (A := ¬ ((kA t (2000000 + 20 * x0 + 1 + 1 + (Int32.toNatClampNeg x1))).2 (Int32.toNatClampNeg x4)) = ((kA t (2000000 + 20 * x0 + 1 + 1 + (Int32.toNatClampNeg x2))).2 (Int32.toNatClampNeg x4))) rfl (zz_cond_ne _ _) (by decide) rfl rfl (fun c => ?_) (fun c => ?_)
  · exact zz_J.weak (k1 c hR) rfl ⟨rfl, rfl, rfl, rfl, trivial⟩
  · exact zz_J.weak (k2 c hR) rfl ⟨rfl, rfl, rfl, rfl, trivial⟩
theorem cb_27_60 {X : Nat → Option zz_C} {h : zz_H} {t : cS} {s : mS} {d : Nat} {Q : zz_O → zz_H → Prop} {x0 : Nat} {x1 : Int32} {x2 : Int32} {x4 : Int32} (hR : kR h t s) (k : ∀ {h : zz_H}, kR h t s → zz_J zp_P zt_tf zt_fd X d zm_27 65 [(0, .ref x0), (1, .int x1), (2, .int x2), (4, .int x4)] [.int 1] h Q) : zz_J zp_P zt_tf zt_fd X d zm_27 60 [(0, .ref x0), (1, .int x1), (2, .int x2), (4, .int x4)] [] h Q := by
  refine zz_J.c 61 (.int 1) rfl rfl rfl rfl ?_
  refine zz_J.n 65 rfl rfl rfl ?_
  exact zz_J.weak (k hR) rfl ⟨rfl, rfl, rfl, rfl, trivial⟩
theorem cb_27_64 {X : Nat → Option zz_C} {h : zz_H} {t : cS} {s : mS} {d : Nat} {Q : zz_O → zz_H → Prop} {x0 : Nat} {x1 : Int32} {x2 : Int32} {x4 : Int32} (hR : kR h t s) (k : ∀ {h : zz_H}, kR h t s → zz_J zp_P zt_tf zt_fd X d zm_27 65 [(0, .ref x0), (1, .int x1), (2, .int x2), (4, .int x4)] [.int 0] h Q) : zz_J zp_P zt_tf zt_fd X d zm_27 64 [(0, .ref x0), (1, .int x1), (2, .int x2), (4, .int x4)] [] h Q := by
  refine zz_J.c 65 (.int 0) rfl rfl rfl rfl ?_
  exact zz_J.weak (k hR) rfl ⟨rfl, rfl, rfl, rfl, trivial⟩
theorem cb_27_65 {X : Nat → Option zz_C} {h : zz_H} {t : cS} {s : mS} {d : Nat} {Q : zz_O → zz_H → Prop} {x0 : Nat} {x1 : Int32} {x2 : Int32} {x4 : Int32} {y0 : Int32} (hR : kR h t s) (k : ∀ {h : zz_H}, kR h t s → zz_J zp_P zt_tf zt_fd X d zm_27 24 [(0, .ref x0), (1, .int x1), (2, .int x2), (3, .int y0), (4, .int (x4 + 1))] [] h Q) : zz_J zp_P zt_tf zt_fd X d zm_27 65 [(0, .ref x0), (1, .int x1), (2, .int x2), (4, .int x4)] [.int y0] h Q := by
  refine zz_J.n 66 rfl rfl rfl ?_
  refine zz_J.n 69 rfl rfl rfl ?_
  refine zz_J.n 24 rfl rfl rfl ?_
  exact zz_J.weak (k hR) rfl ⟨rfl, rfl, rfl, rfl, rfl, trivial⟩
theorem cb_27_72 {X : Nat → Option zz_C} {h : zz_H} {t : cS} {s : mS} {d : Nat} {Q : zz_O → zz_H → Prop} {x3 : Int32} (hR : kR h t s) (k : ∀ {h : zz_H}, kR h t s → Q (.inl (some (.int x3))) h) (rb : zz_reti (some .boolean) x3 = true) : zz_J zp_P zt_tf zt_fd X d zm_27 72 [(3, .int x3)] [] h Q := by
  refine zz_J.n 73 rfl rfl rfl ?_
  refine zz_J.ret rfl rfl (if_pos ⟨rfl, rb⟩) ?_
  exact k hR
def cf_27_72 (N : Nat) (X : Nat → Option zz_C) (x3 : Int32) (t : cS) : kO := if zz_reti (some .boolean) x3 = true then some (t, .inl (some (.int x3))) else none
theorem cr_27_72 {X : Nat → Option zz_C} {s : mS} {N : Nat} {d : Nat} (hd : 0 ≤ d) {Q : zz_O → zz_H → Prop} {x3 : Int32} {h : zz_H} {t t' : cS} {o : kY} (hR : kR h t s) (hf : cf_27_72 N X x3 t = some (t', o)) (k : (∀ h', kR h' t' s → kE o Q h')) : zz_J zp_P zt_tf zt_fd X d zm_27 72 [(3, .int x3)] [] h Q := by
  unfold cf_27_72 at hf
  obtain ⟨rb, hf⟩ := ko_if hf
  cases hf
  exact cb_27_72 hR  (fun {h} hR => k h hR) rb
def cf_27_65 (N : Nat) (X : Nat → Option zz_C) (rc : Nat → Nat → Int32 → Int32 → Int32 → Int32 → cS → kO) (x0 : Nat) (x1 : Int32) (x2 : Int32) (x4 : Int32) (y0 : Int32) (t : cS) : kO := rc 0 x0 x1 x2 y0 (x4 + 1) t
theorem cr_27_65 {X : Nat → Option zz_C} {s : mS} {N : Nat} {d : Nat} (hd : 0 ≤ d) {rc : Nat → Nat → Int32 → Int32 → Int32 → Int32 → cS → kO} (hrc0 : ∀ {Q : zz_O → zz_H → Prop} {x0 : Nat} {x1 : Int32} {x2 : Int32} {x3 : Int32} {x4 : Int32} {h : zz_H} {t t' : cS} {o : kY}, kR h t s → rc 0 x0 x1 x2 x3 x4 t = some (t', o) → (∀ h', kR h' t' s → kE o Q h') → zz_J zp_P zt_tf zt_fd X d zm_27 24 [(0, .ref x0), (1, .int x1), (2, .int x2), (3, .int x3), (4, .int x4)] [] h Q) {Q : zz_O → zz_H → Prop} {x0 : Nat} {x1 : Int32} {x2 : Int32} {x4 : Int32} {y0 : Int32} {h : zz_H} {t t' : cS} {o : kY} (hR : kR h t s) (hf : cf_27_65 N X rc x0 x1 x2 x4 y0 t = some (t', o)) (k : (∀ h', kR h' t' s → kE o Q h')) : zz_J zp_P zt_tf zt_fd X d zm_27 65 [(0, .ref x0), (1, .int x1), (2, .int x2), (4, .int x4)] [.int y0] h Q := by
  unfold cf_27_65 at hf
  exact cb_27_65 hR  (fun hR => hrc0 hR hf k)
def cf_27_60 (N : Nat) (X : Nat → Option zz_C) (rc : Nat → Nat → Int32 → Int32 → Int32 → Int32 → cS → kO) (x0 : Nat) (x1 : Int32) (x2 : Int32) (x4 : Int32) (t : cS) : kO := cf_27_65 N X rc x0 x1 x2 x4 1 t
theorem cr_27_60 {X : Nat → Option zz_C} {s : mS} {N : Nat} {d : Nat} (hd : 0 ≤ d) {rc : Nat → Nat → Int32 → Int32 → Int32 → Int32 → cS → kO} (hrc0 : ∀ {Q : zz_O → zz_H → Prop} {x0 : Nat} {x1 : Int32} {x2 : Int32} {x3 : Int32} {x4 : Int32} {h : zz_H} {t t' : cS} {o : kY}, kR h t s → rc 0 x0 x1 x2 x3 x4 t = some (t', o) → (∀ h', kR h' t' s → kE o Q h') → zz_J zp_P zt_tf zt_fd X d zm_27 24 [(0, .ref x0), (1, .int x1), (2, .int x2), (3, .int x3), (4, .int x4)] [] h Q) {Q : zz_O → zz_H → Prop} {x0 : Nat} {x1 : Int32} {x2 : Int32} {x4 : Int32} {h : zz_H} {t t' : cS} {o : kY} (hR : kR h t s) (hf : cf_27_60 N X rc x0 x1 x2 x4 t = some (t', o)) (k : (∀ h', kR h' t' s → kE o Q h')) : zz_J zp_P zt_tf zt_fd X d zm_27 60 [(0, .ref x0), (1, .int x1), (2, .int x2), (4, .int x4)] [] h Q := by
  unfold cf_27_60 at hf
  exact cb_27_60 hR  (fun hR => cr_27_65 hd hrc0 hR hf k)
def cf_27_64 (N : Nat) (X : Nat → Option zz_C) (rc : Nat → Nat → Int32 → Int32 → Int32 → Int32 → cS → kO) (x0 : Nat) (x1 : Int32) (x2 : Int32) (x4 : Int32) (t : cS) : kO := cf_27_65 N X rc x0 x1 x2 x4 0 t
theorem cr_27_64 {X : Nat → Option zz_C} {s : mS} {N : Nat} {d : Nat} (hd : 0 ≤ d) {rc : Nat → Nat → Int32 → Int32 → Int32 → Int32 → cS → kO} (hrc0 : ∀ {Q : zz_O → zz_H → Prop} {x0 : Nat} {x1 : Int32} {x2 : Int32} {x3 : Int32} {x4 : Int32} {h : zz_H} {t t' : cS} {o : kY}, kR h t s → rc 0 x0 x1 x2 x3 x4 t = some (t', o) → (∀ h', kR h' t' s → kE o Q h') → zz_J zp_P zt_tf zt_fd X d zm_27 24 [(0, .ref x0), (1, .int x1), (2, .int x2), (3, .int x3), (4, .int x4)] [] h Q) {Q : zz_O → zz_H → Prop} {x0 : Nat} {x1 : Int32} {x2 : Int32} {x4 : Int32} {h : zz_H} {t t' : cS} {o : kY} (hR : kR h t s) (hf : cf_27_64 N X rc x0 x1 x2 x4 t = some (t', o)) (k : (∀ h', kR h' t' s → kE o Q h')) : zz_J zp_P zt_tf zt_fd X d zm_27 64 [(0, .ref x0), (1, .int x1), (2, .int x2), (4, .int x4)] [] h Q := by
  unfold cf_27_64 at hf
  exact cb_27_64 hR  (fun hR => cr_27_65 hd hrc0 hR hf k)
def cf_27_39 (N : Nat) (X : Nat → Option zz_C) (rc : Nat → Nat → Int32 → Int32 → Int32 → Int32 → cS → kO) (x0 : Nat) (x1 : Int32) (x2 : Int32) (x4 : Int32) (t : cS) : kO := if kH t x0 = true then (if ¬ (x1 < 0 ∨ 8 ≤ (Int32.toNatClampNeg x1)) then (if ¬ (x4 < 0 ∨ (kA t (2000000 + 20 * x0 + 1 + 1 + (Int32.toNatClampNeg x1))).1 ≤ (Int32.toNatClampNeg x4)) then (if ¬ (x2 < 0 ∨ 8 ≤ (Int32.toNatClampNeg x2)) then (if ¬ (x4 < 0 ∨ (kA t (2000000 + 20 * x0 + 1 + 1 + (Int32.toNatClampNeg x2))).1 ≤ (Int32.toNatClampNeg x4)) then (if ¬ ((kA t (2000000 + 20 * x0 + 1 + 1 + (Int32.toNatClampNeg x1))).2 (Int32.toNatClampNeg x4)) = ((kA t (2000000 + 20 * x0 + 1 + 1 + (Int32.toNatClampNeg x2))).2 (Int32.toNatClampNeg x4)) then cf_27_64 N X rc x0 x1 x2 x4 t else cf_27_60 N X rc x0 x1 x2 x4 t) else none) else none) else none) else none) else none
theorem cr_27_39 {X : Nat → Option zz_C} {s : mS} {N : Nat} {d : Nat} (hd : 0 ≤ d) {rc : Nat → Nat → Int32 → Int32 → Int32 → Int32 → cS → kO} (hrc0 : ∀ {Q : zz_O → zz_H → Prop} {x0 : Nat} {x1 : Int32} {x2 : Int32} {x3 : Int32} {x4 : Int32} {h : zz_H} {t t' : cS} {o : kY}, kR h t s → rc 0 x0 x1 x2 x3 x4 t = some (t', o) → (∀ h', kR h' t' s → kE o Q h') → zz_J zp_P zt_tf zt_fd X d zm_27 24 [(0, .ref x0), (1, .int x1), (2, .int x2), (3, .int x3), (4, .int x4)] [] h Q) {Q : zz_O → zz_H → Prop} {x0 : Nat} {x1 : Int32} {x2 : Int32} {x4 : Int32} {h : zz_H} {t t' : cS} {o : kY} (hR : kR h t s) (hf : cf_27_39 N X rc x0 x1 x2 x4 t = some (t', o)) (k : (∀ h', kR h' t' s → kE o Q h')) : zz_J zp_P zt_tf zt_fd X d zm_27 39 [(0, .ref x0), (1, .int x1), (2, .int x2), (4, .int x4)] [] h Q := by
  unfold cf_27_39 at hf
  obtain ⟨e0, hf⟩ := ko_if hf
  obtain ⟨e1, hf⟩ := ko_if hf
  obtain ⟨e2, hf⟩ := ko_if hf
  obtain ⟨e3, hf⟩ := ko_if hf
  obtain ⟨e4, hf⟩ := ko_if hf
  refine cb_27_39 hR e0 e1 e2 e3 e4 (fun c {h} hR => ?_) (fun c {h} hR => ?_)
  · rw [if_pos c] at hf
    exact cr_27_64 hd hrc0 hR hf k
  · rw [if_neg c] at hf
    exact cr_27_60 hd hrc0 hR hf k
def cf_27_35 (N : Nat) (X : Nat → Option zz_C) (rc : Nat → Nat → Int32 → Int32 → Int32 → Int32 → cS → kO) (x0 : Nat) (x1 : Int32) (x2 : Int32) (x3 : Int32) (x4 : Int32) (t : cS) : kO := if x3 = 0 then cf_27_72 N X x3 t else cf_27_39 N X rc x0 x1 x2 x4 t
theorem cr_27_35 {X : Nat → Option zz_C} {s : mS} {N : Nat} {d : Nat} (hd : 0 ≤ d) {rc : Nat → Nat → Int32 → Int32 → Int32 → Int32 → cS → kO} (hrc0 : ∀ {Q : zz_O → zz_H → Prop} {x0 : Nat} {x1 : Int32} {x2 : Int32} {x3 : Int32} {x4 : Int32} {h : zz_H} {t t' : cS} {o : kY}, kR h t s → rc 0 x0 x1 x2 x3 x4 t = some (t', o) → (∀ h', kR h' t' s → kE o Q h') → zz_J zp_P zt_tf zt_fd X d zm_27 24 [(0, .ref x0), (1, .int x1), (2, .int x2), (3, .int x3), (4, .int x4)] [] h Q) {Q : zz_O → zz_H → Prop} {x0 : Nat} {x1 : Int32} {x2 : Int32} {x3 : Int32} {x4 : Int32} {h : zz_H} {t t' : cS} {o : kY} (hR : kR h t s) (hf : cf_27_35 N X rc x0 x1 x2 x3 x4 t = some (t', o)) (k : (∀ h', kR h' t' s → kE o Q h')) : zz_J zp_P zt_tf zt_fd X d zm_27 35 [(0, .ref x0), (1, .int x1), (2, .int x2), (3, .int x3), (4, .int x4)] [] h Q := by
  unfold cf_27_35 at hf
  refine cb_27_35 hR  (fun c {h} hR => ?_) (fun c {h} hR => ?_)
  · rw [if_pos c] at hf
    exact cr_27_72 hd hR hf k
  · rw [if_neg c] at hf
    exact cr_27_39 hd hrc0 hR hf k
def cf_27_24 (N : Nat) (X : Nat → Option zz_C) (rc : Nat → Nat → Int32 → Int32 → Int32 → Int32 → cS → kO) (x0 : Nat) (x1 : Int32) (x2 : Int32) (x3 : Int32) (x4 : Int32) (t : cS) : kO := if kH t x0 = true then (if ¬ (x1 < 0 ∨ (kA t (2000000 + 20 * x0 + 10)).1 ≤ (Int32.toNatClampNeg x1)) then (if ((kA t (2000000 + 20 * x0 + 10)).2 (Int32.toNatClampNeg x1)) ≤ x4 then cf_27_72 N X x3 t else cf_27_35 N X rc x0 x1 x2 x3 x4 t) else none) else none
theorem cr_27_24 {X : Nat → Option zz_C} {s : mS} {N : Nat} {d : Nat} (hd : 0 ≤ d) {rc : Nat → Nat → Int32 → Int32 → Int32 → Int32 → cS → kO} (hrc0 : ∀ {Q : zz_O → zz_H → Prop} {x0 : Nat} {x1 : Int32} {x2 : Int32} {x3 : Int32} {x4 : Int32} {h : zz_H} {t t' : cS} {o : kY}, kR h t s → rc 0 x0 x1 x2 x3 x4 t = some (t', o) → (∀ h', kR h' t' s → kE o Q h') → zz_J zp_P zt_tf zt_fd X d zm_27 24 [(0, .ref x0), (1, .int x1), (2, .int x2), (3, .int x3), (4, .int x4)] [] h Q) {Q : zz_O → zz_H → Prop} {x0 : Nat} {x1 : Int32} {x2 : Int32} {x3 : Int32} {x4 : Int32} {h : zz_H} {t t' : cS} {o : kY} (hR : kR h t s) (hf : cf_27_24 N X rc x0 x1 x2 x3 x4 t = some (t', o)) (k : (∀ h', kR h' t' s → kE o Q h')) : zz_J zp_P zt_tf zt_fd X d zm_27 24 [(0, .ref x0), (1, .int x1), (2, .int x2), (3, .int x3), (4, .int x4)] [] h Q := by
  unfold cf_27_24 at hf
  obtain ⟨e0, hf⟩ := ko_if hf
  obtain ⟨e1, hf⟩ := ko_if hf
  refine cb_27_24 hR e0 e1 (fun c {h} hR => ?_) (fun c {h} hR => ?_)
  · rw [if_pos c] at hf
    exact cr_27_72 hd hR hf k
  · rw [if_neg c] at hf
    exact cr_27_35 hd hrc0 hR hf k
def cf_27_L1 (N : Nat) (X : Nat → Option zz_C) : Nat → Nat → Nat → Int32 → Int32 → Int32 → Int32 → cS → kO
  | 0, _, _, _, _, _, _, _ => none
  | n + 1, l, x0, x1, x2, x3, x4, t => if l = 0 then cf_27_24 N X (cf_27_L1 N X n) x0 x1 x2 x3 x4 t else none
theorem cr_27_L1 {X : Nat → Option zz_C} {s : mS} {N : Nat} {d : Nat} (hd : 0 ≤ d) : ∀ n : Nat, (∀ {Q : zz_O → zz_H → Prop} {x0 : Nat} {x1 : Int32} {x2 : Int32} {x3 : Int32} {x4 : Int32} {h : zz_H} {t t' : cS} {o : kY}, kR h t s → cf_27_L1 N X n 0 x0 x1 x2 x3 x4 t = some (t', o) → (∀ h', kR h' t' s → kE o Q h') → zz_J zp_P zt_tf zt_fd X d zm_27 24 [(0, .ref x0), (1, .int x1), (2, .int x2), (3, .int x3), (4, .int x4)] [] h Q) := by
  intro n
  induction n with
  | zero => exact (fun _ hf _ => by cases hf)
  | succ n ih =>
    have h0 := @ih
    intro Q _ _ _ _ _ h t t' o hR hf k
    unfold cf_27_L1 at hf
    rw [if_pos rfl] at hf
    exact cr_27_24 hd h0 hR hf k
def cf_27_20 (N : Nat) (X : Nat → Option zz_C) (x0 : Nat) (x1 : Int32) (x2 : Int32) (y0 : Int32) (t : cS) : kO := cf_27_L1 N X N 0 x0 x1 x2 y0 0 t
theorem cr_27_20 {X : Nat → Option zz_C} {s : mS} {N : Nat} {d : Nat} (hd : 0 ≤ d) {Q : zz_O → zz_H → Prop} {x0 : Nat} {x1 : Int32} {x2 : Int32} {y0 : Int32} {h : zz_H} {t t' : cS} {o : kY} (hR : kR h t s) (hf : cf_27_20 N X x0 x1 x2 y0 t = some (t', o)) (k : (∀ h', kR h' t' s → kE o Q h')) : zz_J zp_P zt_tf zt_fd X d zm_27 20 [(0, .ref x0), (1, .int x1), (2, .int x2)] [.int y0] h Q := by
  unfold cf_27_20 at hf
  exact cb_27_20 hR  (fun hR => cr_27_L1 hd N hR hf k)
def cf_27_19 (N : Nat) (X : Nat → Option zz_C) (x0 : Nat) (x1 : Int32) (x2 : Int32) (t : cS) : kO := cf_27_20 N X x0 x1 x2 0 t
theorem cr_27_19 {X : Nat → Option zz_C} {s : mS} {N : Nat} {d : Nat} (hd : 0 ≤ d) {Q : zz_O → zz_H → Prop} {x0 : Nat} {x1 : Int32} {x2 : Int32} {h : zz_H} {t t' : cS} {o : kY} (hR : kR h t s) (hf : cf_27_19 N X x0 x1 x2 t = some (t', o)) (k : (∀ h', kR h' t' s → kE o Q h')) : zz_J zp_P zt_tf zt_fd X d zm_27 19 [(0, .ref x0), (1, .int x1), (2, .int x2)] [] h Q := by
  unfold cf_27_19 at hf
  exact cb_27_19 hR  (fun hR => cr_27_20 hd hR hf k)
def cf_27_15 (N : Nat) (X : Nat → Option zz_C) (x0 : Nat) (x1 : Int32) (x2 : Int32) (t : cS) : kO := cf_27_20 N X x0 x1 x2 1 t
theorem cr_27_15 {X : Nat → Option zz_C} {s : mS} {N : Nat} {d : Nat} (hd : 0 ≤ d) {Q : zz_O → zz_H → Prop} {x0 : Nat} {x1 : Int32} {x2 : Int32} {h : zz_H} {t t' : cS} {o : kY} (hR : kR h t s) (hf : cf_27_15 N X x0 x1 x2 t = some (t', o)) (k : (∀ h', kR h' t' s → kE o Q h')) : zz_J zp_P zt_tf zt_fd X d zm_27 15 [(0, .ref x0), (1, .int x1), (2, .int x2)] [] h Q := by
  unfold cf_27_15 at hf
  exact cb_27_15 hR  (fun hR => cr_27_20 hd hR hf k)
def cf_27_0 (N : Nat) (X : Nat → Option zz_C) (x0 : Nat) (x1 : Int32) (x2 : Int32) (t : cS) : kO := if kH t x0 = true then (if ¬ (x1 < 0 ∨ (kA t (2000000 + 20 * x0 + 10)).1 ≤ (Int32.toNatClampNeg x1)) then (if ¬ (x2 < 0 ∨ (kA t (2000000 + 20 * x0 + 10)).1 ≤ (Int32.toNatClampNeg x2)) then (if ¬ ((kA t (2000000 + 20 * x0 + 10)).2 (Int32.toNatClampNeg x1)) = ((kA t (2000000 + 20 * x0 + 10)).2 (Int32.toNatClampNeg x2)) then cf_27_19 N X x0 x1 x2 t else cf_27_15 N X x0 x1 x2 t) else none) else none) else none
theorem cr_27_0 {X : Nat → Option zz_C} {s : mS} {N : Nat} {d : Nat} (hd : 0 ≤ d) {Q : zz_O → zz_H → Prop} {x0 : Nat} {x1 : Int32} {x2 : Int32} {h : zz_H} {t t' : cS} {o : kY} (hR : kR h t s) (hf : cf_27_0 N X x0 x1 x2 t = some (t', o)) (k : (∀ h', kR h' t' s → kE o Q h')) : zz_J zp_P zt_tf zt_fd X d zm_27 0 [(0, .ref x0), (1, .int x1), (2, .int x2)] [] h Q := by
  unfold cf_27_0 at hf
  obtain ⟨e0, hf⟩ := ko_if hf
  obtain ⟨e1, hf⟩ := ko_if hf
  obtain ⟨e2, hf⟩ := ko_if hf
  refine cb_27_0 hR e0 e1 e2 (fun c {h} hR => ?_) (fun c {h} hR => ?_)
  · rw [if_pos c] at hf
    exact cr_27_19 hd hR hf k
  · rw [if_neg c] at hf
    exact cr_27_15 hd hR hf k
/-- alike -/
def cf_27 (N : Nat) (X : Nat → Option zz_C) (x0 : Nat) (x1 : Int32) (x2 : Int32) (t : cS) : kO := cf_27_0 N X x0 x1 x2 t
theorem cr_27 {X : Nat → Option zz_C} {s : mS} {N : Nat} {d : Nat} (hd : 0 ≤ d) {Q : zz_O → zz_H → Prop} {x0 : Nat} {x1 : Int32} {x2 : Int32} {h : zz_H} {t t' : cS} {o : kY} (hR : kR h t s) (hf : cf_27 N X x0 x1 x2 t = some (t', o)) (k : ∀ h', kR h' t' s → kE o Q h') : zz_J zp_P zt_tf zt_fd X d zm_27 0 [(0, .ref x0), (1, .int x1), (2, .int x2)] [] h Q := by
  unfold cf_27 at hf
  exact zz_J.weak (cr_27_0 hd hR hf k) rfl ⟨rfl, rfl, rfl, trivial⟩
/-! yX12_same (II)Z -/
theorem cb_17_0 {X : Nat → Option zz_C} {h : zz_H} {t : cS} {s : mS} {d : Nat} {Q : zz_O → zz_H → Prop} {x1 : Int32} {x2 : Int32} (hR : kR h t s) (k : ∀ {h : zz_H}, kR h t s → zz_J zp_P zt_tf zt_fd X d zm_21 0 [(0, .int x1)] [] h (zz_after 0 Q (fun v h' => zz_J zp_P zt_tf zt_fd X (d + 1) zm_17 4 [(0, .ref 0), (1, .int x1), (2, .int x2)] (v.toList ++ []) h' Q))) : zz_J zp_P zt_tf zt_fd X (d + 1) zm_17 0 [(0, .ref 0), (1, .int x1), (2, .int x2)] [] h Q := by
  refine zz_J.n 1 rfl rfl rfl ?_
  refine zz_J.cl (M' := zm_21) 4 rfl rfl (by decide) rfl rfl ⟨rfl, Nat.le_of_ble_eq_true rfl⟩ rfl ?_
  refine zz_J.mono (k hR) ?_
  intro o h' hE
  cases o with
  | inl v => exact zz_J.weak hE rfl ⟨rfl, rfl, rfl, trivial⟩
  | inr q => exact hE
theorem cb_17_4 {X : Nat → Option zz_C} {h : zz_H} {t : cS} {s : mS} {d : Nat} {Q : zz_O → zz_H → Prop} {x1 : Int32} {x2 : Int32} {y0 : Int32} (hR : kR h t s) (k1 : y0 = 0 → (∀ {h : zz_H}, kR h t s → zz_J zp_P zt_tf zt_fd X d zm_17 30 [] [] h Q)) (k2 : ¬ y0 = 0 → (∀ {h : zz_H}, kR h t s → zz_J zp_P zt_tf zt_fd X d zm_17 7 [(0, .ref 0), (1, .int x1), (2, .int x2)] [] h Q)) : zz_J zp_P zt_tf zt_fd X d zm_17 4 [(0, .ref 0), (1, .int x1), (2, .int x2)] [.int y0] h Q := by
  refine zz_J.b1 30 7 (A := y0 = 0) rfl rfl (by decide) rfl rfl (fun c => ?_) (fun c => ?_)
  · exact zz_J.weak (k1 c hR) rfl trivial
  · exact zz_J.weak (k2 c hR) rfl ⟨rfl, rfl, rfl, trivial⟩
theorem cb_17_7 {X : Nat → Option zz_C} {h : zz_H} {t : cS} {s : mS} {d : Nat} {Q : zz_O → zz_H → Prop} {x1 : Int32} {x2 : Int32} (hR : kR h t s) (k : ∀ {h : zz_H}, kR h t s → zz_J zp_P zt_tf zt_fd X d zm_21 0 [(0, .int x2)] [] h (zz_after 0 Q (fun v h' => zz_J zp_P zt_tf zt_fd X (d + 1) zm_17 11 [(0, .ref 0), (1, .int x1), (2, .int x2)] (v.toList ++ []) h' Q))) : zz_J zp_P zt_tf zt_fd X (d + 1) zm_17 7 [(0, .ref 0), (1, .int x1), (2, .int x2)] [] h Q := by
  refine zz_J.n 8 rfl rfl rfl ?_
  refine zz_J.cl (M' := zm_21) 11 rfl rfl (by decide) rfl rfl ⟨rfl, Nat.le_of_ble_eq_true rfl⟩ rfl ?_
  refine zz_J.mono (k hR) ?_
  intro o h' hE
  cases o with
  | inl v => exact zz_J.weak hE rfl ⟨rfl, rfl, rfl, trivial⟩
  | inr q => exact hE
theorem cb_17_11 {X : Nat → Option zz_C} {h : zz_H} {t : cS} {s : mS} {d : Nat} {Q : zz_O → zz_H → Prop} {x1 : Int32} {x2 : Int32} {y0 : Int32} (hR : kR h t s) (k1 : y0 = 0 → (∀ {h : zz_H}, kR h t s → zz_J zp_P zt_tf zt_fd X d zm_17 30 [] [] h Q)) (k2 : ¬ y0 = 0 → (∀ {h : zz_H}, kR h t s → zz_J zp_P zt_tf zt_fd X d zm_17 14 [(0, .ref 0), (1, .int x1), (2, .int x2)] [] h Q)) : zz_J zp_P zt_tf zt_fd X d zm_17 11 [(0, .ref 0), (1, .int x1), (2, .int x2)] [.int y0] h Q := by
  refine zz_J.b1 30 14 (A := y0 = 0) rfl rfl (by decide) rfl rfl (fun c => ?_) (fun c => ?_)
  · exact zz_J.weak (k1 c hR) rfl trivial
  · exact zz_J.weak (k2 c hR) rfl ⟨rfl, rfl, rfl, trivial⟩
theorem cb_17_14 {X : Nat → Option zz_C} {h : zz_H} {t : cS} {s : mS} {d : Nat} {Q : zz_O → zz_H → Prop} {x1 : Int32} {x2 : Int32} (hR : kR h t s) {w0 : Nat} (e0 : (kP t 0 7) = some w0) (e1 : kH t w0 = true) (k : ∀ {h : zz_H}, kR h t s → zz_J zp_P zt_tf zt_fd X d zm_27 0 [(0, .ref w0), (1, .int x1), (2, .int x2)] [] h (zz_after 7 Q (fun v h' => zz_J zp_P zt_tf zt_fd X (d + 1) zm_17 23 [] (v.toList ++ []) h' Q))) : zz_J zp_P zt_tf zt_fd X (d + 1) zm_17 14 [(0, .ref 0), (1, .int x1), (2, .int x2)] [] h Q := by
  refine zz_J.n 15 rfl rfl rfl ?_
  refine zz_J.g 18 rfl (hR.gv (v := .ref w0) ko_0 (by decide) ((congrArg (fun q => some (zz_rv q)) e0).trans rfl)) rfl ?_
  refine zz_J.n 19 rfl rfl rfl ?_
  refine zz_J.n 20 rfl rfl rfl ?_
  refine zz_J.cv 23 (as := []) rfl rfl (hR.clS e1 (by decide)) (by decide) (Nat.le_of_ble_eq_true rfl) (Nat.le_of_ble_eq_true rfl) rfl (Nat.le_of_ble_eq_true rfl) rfl ?_
  refine zz_J.mono (k hR) ?_
  intro o h' hE
  cases o with
  | inl v => exact zz_J.weak hE rfl trivial
  | inr q => exact hE
theorem cb_17_23 {X : Nat → Option zz_C} {h : zz_H} {t : cS} {s : mS} {d : Nat} {Q : zz_O → zz_H → Prop} {y0 : Int32} (hR : kR h t s) (k1 : y0 = 0 → (∀ {h : zz_H}, kR h t s → zz_J zp_P zt_tf zt_fd X d zm_17 30 [] [] h Q)) (k2 : ¬ y0 = 0 → (∀ {h : zz_H}, kR h t s → zz_J zp_P zt_tf zt_fd X d zm_17 26 [] [] h Q)) : zz_J zp_P zt_tf zt_fd X d zm_17 23 [] [.int y0] h Q := by
  refine zz_J.b1 30 26 (A := y0 = 0) rfl rfl (by decide) rfl rfl (fun c => ?_) (fun c => ?_)
  · exact zz_J.weak (k1 c hR) rfl trivial
  · exact zz_J.weak (k2 c hR) rfl trivial
theorem cb_17_26 {X : Nat → Option zz_C} {h : zz_H} {t : cS} {s : mS} {d : Nat} {Q : zz_O → zz_H → Prop}  (hR : kR h t s) (k : ∀ {h : zz_H}, kR h t s → zz_J zp_P zt_tf zt_fd X d zm_17 31 [] [.int 1] h Q) : zz_J zp_P zt_tf zt_fd X d zm_17 26 [] [] h Q := by
  refine zz_J.c 27 (.int 1) rfl rfl rfl rfl ?_
  refine zz_J.n 31 rfl rfl rfl ?_
  exact zz_J.weak (k hR) rfl trivial
theorem cb_17_30 {X : Nat → Option zz_C} {h : zz_H} {t : cS} {s : mS} {d : Nat} {Q : zz_O → zz_H → Prop}  (hR : kR h t s) (k : ∀ {h : zz_H}, kR h t s → zz_J zp_P zt_tf zt_fd X d zm_17 31 [] [.int 0] h Q) : zz_J zp_P zt_tf zt_fd X d zm_17 30 [] [] h Q := by
  refine zz_J.c 31 (.int 0) rfl rfl rfl rfl ?_
  exact zz_J.weak (k hR) rfl trivial
theorem cb_17_31 {X : Nat → Option zz_C} {h : zz_H} {t : cS} {s : mS} {d : Nat} {Q : zz_O → zz_H → Prop} {y0 : Int32} (hR : kR h t s) (k : ∀ {h : zz_H}, kR h t s → Q (.inl (some (.int y0))) h) (rb : zz_reti (some .boolean) y0 = true) : zz_J zp_P zt_tf zt_fd X d zm_17 31 [] [.int y0] h Q := by
  refine zz_J.ret rfl rfl (if_pos ⟨rfl, rb⟩) ?_
  exact k hR
def cf_17_31 (N : Nat) (X : Nat → Option zz_C) (y0 : Int32) (t : cS) : kO := if zz_reti (some .boolean) y0 = true then some (t, .inl (some (.int y0))) else none
theorem cr_17_31 {X : Nat → Option zz_C} {s : mS} {N : Nat} {d : Nat} (hd : 1 ≤ d) {Q : zz_O → zz_H → Prop} {y0 : Int32} {h : zz_H} {t t' : cS} {o : kY} (hR : kR h t s) (hf : cf_17_31 N X y0 t = some (t', o)) (k : (∀ h', kR h' t' s → kE o Q h')) : zz_J zp_P zt_tf zt_fd X d zm_17 31 [] [.int y0] h Q := by
  unfold cf_17_31 at hf
  obtain ⟨rb, hf⟩ := ko_if hf
  cases hf
  exact cb_17_31 hR  (fun {h} hR => k h hR) rb
def cf_17_30 (N : Nat) (X : Nat → Option zz_C)  (t : cS) : kO := cf_17_31 N X 0 t
theorem cr_17_30 {X : Nat → Option zz_C} {s : mS} {N : Nat} {d : Nat} (hd : 1 ≤ d) {Q : zz_O → zz_H → Prop}  {h : zz_H} {t t' : cS} {o : kY} (hR : kR h t s) (hf : cf_17_30 N X  t = some (t', o)) (k : (∀ h', kR h' t' s → kE o Q h')) : zz_J zp_P zt_tf zt_fd X d zm_17 30 [] [] h Q := by
  unfold cf_17_30 at hf
  exact cb_17_30 hR  (fun hR => cr_17_31 hd hR hf k)
def cf_17_26 (N : Nat) (X : Nat → Option zz_C)  (t : cS) : kO := cf_17_31 N X 1 t
theorem cr_17_26 {X : Nat → Option zz_C} {s : mS} {N : Nat} {d : Nat} (hd : 1 ≤ d) {Q : zz_O → zz_H → Prop}  {h : zz_H} {t t' : cS} {o : kY} (hR : kR h t s) (hf : cf_17_26 N X  t = some (t', o)) (k : (∀ h', kR h' t' s → kE o Q h')) : zz_J zp_P zt_tf zt_fd X d zm_17 26 [] [] h Q := by
  unfold cf_17_26 at hf
  exact cb_17_26 hR  (fun hR => cr_17_31 hd hR hf k)
def cf_17_23 (N : Nat) (X : Nat → Option zz_C) (y0 : Int32) (t : cS) : kO := if y0 = 0 then cf_17_30 N X  t else cf_17_26 N X  t
theorem cr_17_23 {X : Nat → Option zz_C} {s : mS} {N : Nat} {d : Nat} (hd : 1 ≤ d) {Q : zz_O → zz_H → Prop} {y0 : Int32} {h : zz_H} {t t' : cS} {o : kY} (hR : kR h t s) (hf : cf_17_23 N X y0 t = some (t', o)) (k : (∀ h', kR h' t' s → kE o Q h')) : zz_J zp_P zt_tf zt_fd X d zm_17 23 [] [.int y0] h Q := by
  unfold cf_17_23 at hf
  refine cb_17_23 hR  (fun c {h} hR => ?_) (fun c {h} hR => ?_)
  · rw [if_pos c] at hf
    exact cr_17_30 hd hR hf k
  · rw [if_neg c] at hf
    exact cr_17_26 hd hR hf k
def cf_17_14 (N : Nat) (X : Nat → Option zz_C) (x1 : Int32) (x2 : Int32) (t : cS) : kO := co_b ((kP t 0 7)) (fun w0 => if kH t w0 = true then (ko_call 7 (cf_27 N X w0 x1 x2 t) (fun g1 v1 => co_i v1 (fun y => cf_17_23 N X y g1))) else none)
theorem cr_17_14 {X : Nat → Option zz_C} {s : mS} {N : Nat} {d : Nat} (hd : 1 ≤ d) {Q : zz_O → zz_H → Prop} {x1 : Int32} {x2 : Int32} {h : zz_H} {t t' : cS} {o : kY} (hR : kR h t s) (hf : cf_17_14 N X x1 x2 t = some (t', o)) (k : (∀ h', kR h' t' s → kE o Q h')) : zz_J zp_P zt_tf zt_fd X d zm_17 14 [(0, .ref 0), (1, .int x1), (2, .int x2)] [] h Q := by
  unfold cf_17_14 at hf
  obtain ⟨w0, e0, hf⟩ := co_b_ok hf
  obtain ⟨e1, hf⟩ := ko_if hf
  obtain ⟨d', rfl⟩ : ∃ d', d = d' + 1 := ⟨d - 1, by omega⟩
  refine cb_17_14 hR e0 e1 (fun {h} hR => ?_)
  rcases ko_call_ok hf with ⟨g1, v1, er, hf⟩ | ⟨g1, er, hq⟩
  · obtain ⟨y, hv, hf2⟩ := co_i_ok hf
    clear hf
    have hf := hf2
    clear hf2
    subst hv
    refine cr_27 (by omega) hR er (fun h hR => ?_)
    exact cr_17_23 hd hR hf k
  · refine cr_27 (by omega) hR er (fun h hR => ?_)
    exact ko_thrown hq hR k
def cf_17_11 (N : Nat) (X : Nat → Option zz_C) (x1 : Int32) (x2 : Int32) (y0 : Int32) (t : cS) : kO := if y0 = 0 then cf_17_30 N X  t else cf_17_14 N X x1 x2 t
theorem cr_17_11 {X : Nat → Option zz_C} {s : mS} {N : Nat} {d : Nat} (hd : 1 ≤ d) {Q : zz_O → zz_H → Prop} {x1 : Int32} {x2 : Int32} {y0 : Int32} {h : zz_H} {t t' : cS} {o : kY} (hR : kR h t s) (hf : cf_17_11 N X x1 x2 y0 t = some (t', o)) (k : (∀ h', kR h' t' s → kE o Q h')) : zz_J zp_P zt_tf zt_fd X d zm_17 11 [(0, .ref 0), (1, .int x1), (2, .int x2)] [.int y0] h Q := by
  unfold cf_17_11 at hf
  refine cb_17_11 hR  (fun c {h} hR => ?_) (fun c {h} hR => ?_)
  · rw [if_pos c] at hf
    exact cr_17_30 hd hR hf k
  · rw [if_neg c] at hf
    exact cr_17_14 hd hR hf k
def cf_17_7 (N : Nat) (X : Nat → Option zz_C) (x1 : Int32) (x2 : Int32) (t : cS) : kO := ko_call 0 (cf_21 N X x2 t) (fun g1 v1 => co_i v1 (fun y => cf_17_11 N X x1 x2 y g1))
theorem cr_17_7 {X : Nat → Option zz_C} {s : mS} {N : Nat} {d : Nat} (hd : 1 ≤ d) {Q : zz_O → zz_H → Prop} {x1 : Int32} {x2 : Int32} {h : zz_H} {t t' : cS} {o : kY} (hR : kR h t s) (hf : cf_17_7 N X x1 x2 t = some (t', o)) (k : (∀ h', kR h' t' s → kE o Q h')) : zz_J zp_P zt_tf zt_fd X d zm_17 7 [(0, .ref 0), (1, .int x1), (2, .int x2)] [] h Q := by
  unfold cf_17_7 at hf
  obtain ⟨d', rfl⟩ : ∃ d', d = d' + 1 := ⟨d - 1, by omega⟩
  refine cb_17_7 hR  (fun {h} hR => ?_)
  rcases ko_call_ok hf with ⟨g1, v1, er, hf⟩ | ⟨g1, er, hq⟩
  · obtain ⟨y, hv, hf2⟩ := co_i_ok hf
    clear hf
    have hf := hf2
    clear hf2
    subst hv
    refine cr_21 (by omega) hR er (fun h hR => ?_)
    exact cr_17_11 hd hR hf k
  · refine cr_21 (by omega) hR er (fun h hR => ?_)
    exact ko_thrown hq hR k
def cf_17_4 (N : Nat) (X : Nat → Option zz_C) (x1 : Int32) (x2 : Int32) (y0 : Int32) (t : cS) : kO := if y0 = 0 then cf_17_30 N X  t else cf_17_7 N X x1 x2 t
theorem cr_17_4 {X : Nat → Option zz_C} {s : mS} {N : Nat} {d : Nat} (hd : 1 ≤ d) {Q : zz_O → zz_H → Prop} {x1 : Int32} {x2 : Int32} {y0 : Int32} {h : zz_H} {t t' : cS} {o : kY} (hR : kR h t s) (hf : cf_17_4 N X x1 x2 y0 t = some (t', o)) (k : (∀ h', kR h' t' s → kE o Q h')) : zz_J zp_P zt_tf zt_fd X d zm_17 4 [(0, .ref 0), (1, .int x1), (2, .int x2)] [.int y0] h Q := by
  unfold cf_17_4 at hf
  refine cb_17_4 hR  (fun c {h} hR => ?_) (fun c {h} hR => ?_)
  · rw [if_pos c] at hf
    exact cr_17_30 hd hR hf k
  · rw [if_neg c] at hf
    exact cr_17_7 hd hR hf k
def cf_17_0 (N : Nat) (X : Nat → Option zz_C) (x1 : Int32) (x2 : Int32) (t : cS) : kO := ko_call 0 (cf_21 N X x1 t) (fun g1 v1 => co_i v1 (fun y => cf_17_4 N X x1 x2 y g1))
theorem cr_17_0 {X : Nat → Option zz_C} {s : mS} {N : Nat} {d : Nat} (hd : 1 ≤ d) {Q : zz_O → zz_H → Prop} {x1 : Int32} {x2 : Int32} {h : zz_H} {t t' : cS} {o : kY} (hR : kR h t s) (hf : cf_17_0 N X x1 x2 t = some (t', o)) (k : (∀ h', kR h' t' s → kE o Q h')) : zz_J zp_P zt_tf zt_fd X d zm_17 0 [(0, .ref 0), (1, .int x1), (2, .int x2)] [] h Q := by
  unfold cf_17_0 at hf
  obtain ⟨d', rfl⟩ : ∃ d', d = d' + 1 := ⟨d - 1, by omega⟩
  refine cb_17_0 hR  (fun {h} hR => ?_)
  rcases ko_call_ok hf with ⟨g1, v1, er, hf⟩ | ⟨g1, er, hq⟩
  · obtain ⟨y, hv, hf2⟩ := co_i_ok hf
    clear hf
    have hf := hf2
    clear hf2
    subst hv
    refine cr_21 (by omega) hR er (fun h hR => ?_)
    exact cr_17_4 hd hR hf k
  · refine cr_21 (by omega) hR er (fun h hR => ?_)
    exact ko_thrown hq hR k
/-- same -/
def cf_17 (N : Nat) (X : Nat → Option zz_C) (x1 : Int32) (x2 : Int32) (t : cS) : kO := cf_17_0 N X x1 x2 t
theorem cr_17 {X : Nat → Option zz_C} {s : mS} {N : Nat} {d : Nat} (hd : 1 ≤ d) {Q : zz_O → zz_H → Prop} {x1 : Int32} {x2 : Int32} {h : zz_H} {t t' : cS} {o : kY} (hR : kR h t s) (hf : cf_17 N X x1 x2 t = some (t', o)) (k : ∀ h', kR h' t' s → kE o Q h') : zz_J zp_P zt_tf zt_fd X d zm_17 0 [(0, .ref 0), (1, .int x1), (2, .int x2)] [] h Q := by
  unfold cf_17 at hf
  exact zz_J.weak (cr_17_0 hd hR hf k) rfl ⟨rfl, rfl, rfl, trivial⟩
