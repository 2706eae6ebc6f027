/-! yX3_on (I)J -/
theorem cb_139_0 {X : Nat → Option zz_C} {h : zz_H} {t : cS} {s : mS} {d : Nat} {Q : zz_O → zz_H → Prop} {x1 : Int32} (hR : kR h t s) (e0 : ¬ (x1 < 0 ∨ (kB t 50).1 ≤ (Int32.toNatClampNeg x1))) (k : ∀ {h : zz_H}, kR h t s → Q (.inl (some (.long ((kB t 50).2 (Int32.toNatClampNeg x1))))) h) : zz_J zp_P zt_tf zt_fd X d zm_139 0 [(0, .ref 49), (1, .int x1)] [] h Q := by
  refine zz_J.n 1 rfl rfl rfl ?_
  refine zz_J.g 4 rfl (hR.gv (v := .ref (kD t 50)) ko_49 (by decide) rfl) rfl ?_
  refine zz_J.n 5 rfl rfl rfl ?_
  refine zz_J.al 6 rfl (hR.al (w := ((kB t 50).2 (Int32.toNatClampNeg x1))) ka_50 rfl e0 rfl) rfl ?_
  refine zz_J.ret rfl rfl rfl ?_
  exact k hR
def cf_139_0 (N : Nat) (X : Nat → Option zz_C) (x1 : Int32) (t : cS) : kO := if ¬ (x1 < 0 ∨ (kB t 50).1 ≤ (Int32.toNatClampNeg x1)) then (some (t, .inl (some (.long ((kB t 50).2 (Int32.toNatClampNeg x1)))))) else none
theorem cr_139_0 {X : Nat → Option zz_C} {s : mS} {N : Nat} {d : Nat} (hd : 0 ≤ d) {Q : zz_O → zz_H → Prop} {x1 : Int32} {h : zz_H} {t t' : cS} {o : kY} (hR : kR h t s) (hf : cf_139_0 N X x1 t = some (t', o)) (k : (∀ h', kR h' t' s → kE o Q h')) : zz_J zp_P zt_tf zt_fd X d zm_139 0 [(0, .ref 49), (1, .int x1)] [] h Q := by
  unfold cf_139_0 at hf
  obtain ⟨e0, hf⟩ := ko_if hf
  cases hf
  exact cb_139_0 hR e0 (fun {h} hR => k h hR)
/-- on -/
def cf_139 (N : Nat) (X : Nat → Option zz_C) (x1 : Int32) (t : cS) : kO := cf_139_0 N X x1 t
theorem cr_139 {X : Nat → Option zz_C} {s : mS} {N : Nat} {d : Nat} (hd : 0 ≤ d) {Q : zz_O → zz_H → Prop} {x1 : Int32} {h : zz_H} {t t' : cS} {o : kY} (hR : kR h t s) (hf : cf_139 N X x1 t = some (t', o)) (k : ∀ h', kR h' t' s → kE o Q h') : zz_J zp_P zt_tf zt_fd X d zm_139 0 [(0, .ref 49), (1, .int x1)] [] h Q := by
  unfold cf_139 at hf
  exact zz_J.weak (cr_139_0 hd hR hf k) rfl ⟨rfl, rfl, trivial⟩
/-! yX3_given ()J -/
theorem cb_140_0 {X : Nat → Option zz_C} {h : zz_H} {t : cS} {s : mS} {d : Nat} {Q : zz_O → zz_H → Prop}  (hR : kR h t s) (k : ∀ {h : zz_H}, kR h t s → zz_J zp_P zt_tf zt_fd X d zm_167 0 [(0, .ref 49), (1, .int 1)] [] h (zz_after 3 Q (fun v h' => zz_J zp_P zt_tf zt_fd X (d + 1) zm_140 5 [] (v.toList ++ []) h' Q))) : zz_J zp_P zt_tf zt_fd X (d + 1) zm_140 0 [(0, .ref 49)] [] h Q := by
  refine zz_J.n 1 rfl rfl rfl ?_
  refine zz_J.c 2 (.int 1) rfl rfl rfl rfl ?_
  refine zz_J.cv 5 (as := []) rfl rfl (hR.clO ko_49 (by decide) (by decide)) (by decide) (Nat.le_of_ble_eq_true rfl) (Nat.le_of_ble_eq_true rfl) rfl (Nat.le_of_ble_eq_true rfl) rfl ?_
  refine zz_J.mono (k hR) ?_
  intro o h' hE
  cases o with
  | inl v => exact zz_J.weak hE rfl trivial
  | inr q => exact hE
theorem cb_140_5 {X : Nat → Option zz_C} {h : zz_H} {t : cS} {s : mS} {d : Nat} {Q : zz_O → zz_H → Prop} {y0 : Int64} (hR : kR h t s) (k : ∀ {h : zz_H}, kR h t s → Q (.inl (some (.long y0))) h) : zz_J zp_P zt_tf zt_fd X d zm_140 5 [] [.long y0] h Q := by
  refine zz_J.ret rfl rfl rfl ?_
  exact k hR
def cf_140_5 (N : Nat) (X : Nat → Option zz_C) (y0 : Int64) (t : cS) : kO := some (t, .inl (some (.long y0)))
theorem cr_140_5 {X : Nat → Option zz_C} {s : mS} {N : Nat} {d : Nat} (hd : 2 ≤ d) {Q : zz_O → zz_H → Prop} {y0 : Int64} {h : zz_H} {t t' : cS} {o : kY} (hR : kR h t s) (hf : cf_140_5 N X y0 t = some (t', o)) (k : (∀ h', kR h' t' s → kE o Q h')) : zz_J zp_P zt_tf zt_fd X d zm_140 5 [] [.long y0] h Q := by
  unfold cf_140_5 at hf
  cases hf
  exact cb_140_5 hR  (fun {h} hR => k h hR)
def cf_140_0 (N : Nat) (X : Nat → Option zz_C)  (t : cS) : kO := ko_call 3 (cf_167 N X 1 t) (fun g1 v1 => co_l v1 (fun y => cf_140_5 N X y g1))
theorem cr_140_0 {X : Nat → Option zz_C} {s : mS} {N : Nat} {d : Nat} (hd : 2 ≤ d) {Q : zz_O → zz_H → Prop}  {h : zz_H} {t t' : cS} {o : kY} (hR : kR h t s) (hf : cf_140_0 N X  t = some (t', o)) (k : (∀ h', kR h' t' s → kE o Q h')) : zz_J zp_P zt_tf zt_fd X d zm_140 0 [(0, .ref 49)] [] h Q := by
  unfold cf_140_0 at hf
  obtain ⟨d', rfl⟩ : ∃ d', d = d' + 1 := ⟨d - 1, by omega⟩
  refine cb_140_0 hR  (fun {h} hR => ?_)
  rcases ko_call_ok hf with ⟨g1, v1, er, hf⟩ | ⟨g1, er, hq⟩
  · obtain ⟨y, hv, hf2⟩ := co_l_ok hf
    clear hf
    have hf := hf2
    clear hf2
    subst hv
    refine cr_167 (by omega) hR er (fun h hR => ?_)
    exact cr_140_5 hd hR hf k
  · refine cr_167 (by omega) hR er (fun h hR => ?_)
    exact ko_thrown hq hR k
/-- given -/
def cf_140 (N : Nat) (X : Nat → Option zz_C)  (t : cS) : kO := cf_140_0 N X  t
theorem cr_140 {X : Nat → Option zz_C} {s : mS} {N : Nat} {d : Nat} (hd : 2 ≤ d) {Q : zz_O → zz_H → Prop}  {h : zz_H} {t t' : cS} {o : kY} (hR : kR h t s) (hf : cf_140 N X  t = some (t', o)) (k : ∀ h', kR h' t' s → kE o Q h') : zz_J zp_P zt_tf zt_fd X d zm_140 0 [(0, .ref 49)] [] h Q := by
  unfold cf_140 at hf
  exact zz_J.weak (cr_140_0 hd hR hf k) rfl ⟨rfl, trivial⟩
/-! yX7_put (II)V -/
theorem cb_25_0 {X : Nat → Option zz_C} {h : zz_H} {t : cS} {s : mS} {d : Nat} {Q : zz_O → zz_H → Prop} {x0 : Nat} {x1 : Int32} {x2 : Int32} (hR : kR h t s) (e0 : kH t x0 = true) (e1 : ¬ (x1 < 0 ∨ (kA t (2000000 + 20 * x0 + 10)).1 ≤ (Int32.toNatClampNeg x1))) (e2 : ¬ (x1 < 0 ∨ 8 ≤ (Int32.toNatClampNeg x1))) (k1 : ((kA t (2000000 + 20 * x0 + 10)).2 (Int32.toNatClampNeg x1)) < (Int32.ofNat (kA t (2000000 + 20 * x0 + 1 + 1 + (Int32.toNatClampNeg x1))).1) → (∀ {h : zz_H}, kR h t s → zz_J zp_P zt_tf zt_fd X d zm_25 38 [(0, .ref x0), (1, .int x1), (2, .int x2), (3, .int ((kA t (2000000 + 20 * x0 + 10)).2 (Int32.toNatClampNeg x1)))] [] h Q)) (k2 : ¬ ((kA t (2000000 + 20 * x0 + 10)).2 (Int32.toNatClampNeg x1)) < (Int32.ofNat (kA t (2000000 + 20 * x0 + 1 + 1 + (Int32.toNatClampNeg x1))).1) → (∀ {h : zz_H}, kR h t s → zz_J zp_P zt_tf zt_fd X d zm_25 18 [(0, .ref x0), (1, .int x1), (2, .int x2), (3, .int ((kA t (2000000 + 20 * x0 + 10)).2 (Int32.toNatClampNeg x1)))] [] h Q)) : zz_J zp_P zt_tf zt_fd X d zm_25 0 [(0, .ref x0), (1, .int x1), (2, .int x2)] [] h Q := by
  refine zz_J.n 1 rfl rfl rfl ?_
  refine zz_J.g 4 rfl (hR.gvS (v := .ref (kD t (2000000 + 20 * x0 + 10))) e0 rfl) rfl ?_
  refine zz_J.n 5 rfl rfl rfl ?_
  refine zz_J.ai 6 rfl (hR.ai (w := ((kA t (2000000 + 20 * x0 + 10)).2 (Int32.toNatClampNeg x1))) (ka_S10 e0) rfl e1 rfl) rfl ?_
  refine zz_J.n 7 rfl rfl rfl ?_
  refine zz_J.n 8 rfl rfl rfl ?_
  refine zz_J.n 9 rfl rfl rfl ?_
  refine zz_J.g 12 rfl (hR.gvS (v := .ref (kD t (2000000 + 20 * x0 + 1))) e0 rfl) rfl ?_
  refine zz_J.n 13 rfl rfl rfl ?_
  refine zz_J.ar 14 rfl (hR.arS e0 e2) rfl ?_
  refine zz_J.ln 15 rfl (hR.ln (w := (Int32.ofNat (kA t (2000000 + 20 * x0 + 1 + 1 + (Int32.toNatClampNeg x1))).1)) (ka_Sr e0 e2) rfl (by decide) rfl) rfl ?_
  refine zz_J.b2 38 18 (A := ((kA t (2000000 + 20 * x0 + 10)).2 (Int32.toNatClampNeg x1)) < (Int32.ofNat (kA t (2000000 + 20 * x0 + 1 + 1 + (Int32.toNatClampNeg x1))).1)) rfl rfl (by decide) rfl rfl (fun c => ?_) (fun c => ?_)
  · exact zz_J.weak (k1 c hR) rfl ⟨rfl, rfl, rfl, rfl, trivial⟩
  · exact zz_J.weak (k2 c hR) rfl ⟨rfl, rfl, rfl, rfl, trivial⟩
theorem cb_25_18 {X : Nat → Option zz_C} {h : zz_H} {t : cS} {s : mS} {d : Nat} {Q : zz_O → zz_H → Prop} {x0 : Nat} {x1 : Int32} {x2 : Int32} {x3 : Int32} (hR : kR h t s) (e0 : kH t x0 = true) (e1 : ¬ (x1 < 0 ∨ 8 ≤ (Int32.toNatClampNeg x1))) (e2 : ¬ ((2 * x3) + 4) < 0 ∧ (Int32.toNatClampNeg ((2 * x3) + 4)) ≤ 1000000 ∧ (kA t (2000000 + 20 * x0 + 1 + 1 + (Int32.toNatClampNeg x1))).1 ≤ 1000000 ∧ ¬ ((2 * x3) + 4) = Int32.ofNat (kA t (2000000 + 20 * x0 + 1 + 1 + (Int32.toNatClampNeg x1))).1 ∧ (kN t) + 1 < zz_out) (k : ∀ {h : zz_H}, kR h (jMv (jNI t 1 (Int32.toNatClampNeg ((2 * x3) + 4)) (kcp 0 (kA t (2000000 + 20 * x0 + 1 + 1 + (Int32.toNatClampNeg x1))).2 (Nat.min (kA t (2000000 + 20 * x0 + 1 + 1 + (Int32.toNatClampNeg x1))).1 (Int32.toNatClampNeg ((2 * x3) + 4))))) (2000000 + 20 * x0 + 1 + 1 + (Int32.toNatClampNeg x1))) s → zz_J zp_P zt_tf zt_fd X (d + 9) zm_25 38 [(0, .ref x0), (1, .int x1), (2, .int x2), (3, .int x3)] [] h Q) : zz_J zp_P zt_tf zt_fd X (d + 9) zm_25 18 [(0, .ref x0), (1, .int x1), (2, .int x2), (3, .int x3)] [] h Q := by
  refine zz_J.n 19 rfl rfl rfl ?_
  refine zz_J.g 22 rfl (hR.gvS (v := .ref (kD t (2000000 + 20 * x0 + 1))) e0 rfl) rfl ?_
  refine zz_J.n 23 rfl rfl rfl ?_
  refine zz_J.n 24 rfl rfl rfl ?_
  refine zz_J.g 27 rfl (hR.gvS (v := .ref (kD t (2000000 + 20 * x0 + 1))) e0 rfl) rfl ?_
  refine zz_J.n 28 rfl rfl rfl ?_
  refine zz_J.ar 29 rfl (hR.arS e0 e1) rfl ?_
  refine zz_J.c 30 (.int 2) rfl rfl rfl rfl ?_
  refine zz_J.n 31 rfl rfl rfl ?_
  refine zz_J.n 32 rfl rfl rfl ?_
  refine zz_J.c 33 (.int 4) rfl rfl rfl rfl ?_
  refine zz_J.n 34 rfl rfl rfl ?_
  refine kq_copyi 37 rfl rfl hR (by omega) (ka_Sr e0 e1) rfl e2 (Nat.le_of_ble_eq_true rfl) (fun {h} hR => ?_)
  obtain ⟨h1, eq1, hR⟩ := hR.mvS e0 e1 (if_neg (by omega)) rfl rfl
  refine zz_J.sr 38 rfl eq1 rfl ?_
  clear eq1
  exact zz_J.weak (k hR) rfl ⟨rfl, rfl, rfl, rfl, trivial⟩
theorem cb_25_38 {X : Nat → Option zz_C} {h : zz_H} {t : cS} {s : mS} {d : Nat} {Q : zz_O → zz_H → Prop} {x0 : Nat} {x1 : Int32} {x2 : Int32} {x3 : Int32} (hR : kR h t s) (e0 : kH t x0 = true) (e1 : ¬ (x1 < 0 ∨ 8 ≤ (Int32.toNatClampNeg x1))) (e2 : ¬ (x3 < 0 ∨ (kA t (2000000 + 20 * x0 + 1 + 1 + (Int32.toNatClampNeg x1))).1 ≤ (Int32.toNatClampNeg x3))) (e3 : ¬ (x1 < 0 ∨ (kA (jA t (2000000 + 20 * x0 + 1 + 1 + (Int32.toNatClampNeg x1)) (upd (kA t (2000000 + 20 * x0 + 1 + 1 + (Int32.toNatClampNeg x1))).2 (Int32.toNatClampNeg x3) x2)) (2000000 + 20 * x0 + 10)).1 ≤ (Int32.toNatClampNeg x1))) (k : ∀ {h : zz_H}, kR h (jA (jA t (2000000 + 20 * x0 + 1 + 1 + (Int32.toNatClampNeg x1)) (upd (kA t (2000000 + 20 * x0 + 1 + 1 + (Int32.toNatClampNeg x1))).2 (Int32.toNatClampNeg x3) x2)) (2000000 + 20 * x0 + 10) (upd (kA (jA t (2000000 + 20 * x0 + 1 + 1 + (Int32.toNatClampNeg x1)) (upd (kA t (2000000 + 20 * x0 + 1 + 1 + (Int32.toNatClampNeg x1))).2 (Int32.toNatClampNeg x3) x2)) (2000000 + 20 * x0 + 10)).2 (Int32.toNatClampNeg x1) (x3 + 1))) s → Q (.inl none) h) : zz_J zp_P zt_tf zt_fd X d zm_25 38 [(0, .ref x0), (1, .int x1), (2, .int x2), (3, .int x3)] [] h Q := by
  refine zz_J.n 39 rfl rfl rfl ?_
  refine zz_J.g 42 rfl (hR.gvS (v := .ref (kD t (2000000 + 20 * x0 + 1))) e0 rfl) rfl ?_
  refine zz_J.n 43 rfl rfl rfl ?_
  refine zz_J.ar 44 rfl (hR.arS e0 e1) rfl ?_
  refine zz_J.n 45 rfl rfl rfl ?_
  refine zz_J.n 46 rfl rfl rfl ?_
  obtain ⟨h1, eq1, hR⟩ := hR.si (x := x2) (ka_Sr e0 e1) rfl e2
  refine zz_J.si 47 rfl eq1 rfl ?_
  clear eq1
  refine zz_J.n 48 rfl rfl rfl ?_
  refine zz_J.g 51 rfl (hR.gvS (v := .ref (kD t (2000000 + 20 * x0 + 10))) e0 rfl) rfl ?_
  refine zz_J.n 52 rfl rfl rfl ?_
  refine zz_J.n 53 rfl rfl rfl ?_
  refine zz_J.c 54 (.int 1) rfl rfl rfl rfl ?_
  refine zz_J.n 55 rfl rfl rfl ?_
  obtain ⟨h1, eq1, hR⟩ := hR.si (x := (x3 + 1)) (ka_S10 e0) rfl e3
  refine zz_J.si 56 rfl eq1 rfl ?_
  clear eq1
  refine zz_J.ret rfl rfl rfl ?_
  exact k hR
def cf_25_38 (N : Nat) (X : Nat → Option zz_C) (x0 : Nat) (x1 : Int32) (x2 : Int32) (x3 : Int32) (t : cS) : kO := if kH t x0 = true then (if ¬ (x1 < 0 ∨ 8 ≤ (Int32.toNatClampNeg x1)) then (if ¬ (x3 < 0 ∨ (kA t (2000000 + 20 * x0 + 1 + 1 + (Int32.toNatClampNeg x1))).1 ≤ (Int32.toNatClampNeg x3)) then (if ¬ (x1 < 0 ∨ (kA (jA t (2000000 + 20 * x0 + 1 + 1 + (Int32.toNatClampNeg x1)) (upd (kA t (2000000 + 20 * x0 + 1 + 1 + (Int32.toNatClampNeg x1))).2 (Int32.toNatClampNeg x3) x2)) (2000000 + 20 * x0 + 10)).1 ≤ (Int32.toNatClampNeg x1)) then (some ((jA (jA t (2000000 + 20 * x0 + 1 + 1 + (Int32.toNatClampNeg x1)) (upd (kA t (2000000 + 20 * x0 + 1 + 1 + (Int32.toNatClampNeg x1))).2 (Int32.toNatClampNeg x3) x2)) (2000000 + 20 * x0 + 10) (upd (kA (jA t (2000000 + 20 * x0 + 1 + 1 + (Int32.toNatClampNeg x1)) (upd (kA t (2000000 + 20 * x0 + 1 + 1 + (Int32.toNatClampNeg x1))).2 (Int32.toNatClampNeg x3) x2)) (2000000 + 20 * x0 + 10)).2 (Int32.toNatClampNeg x1) (x3 + 1))), .inl none)) else none) else none) else none) else none
theorem cr_25_38 {X : Nat → Option zz_C} {s : mS} {N : Nat} {d : Nat} (hd : 9 ≤ d) {Q : zz_O → zz_H → Prop} {x0 : Nat} {x1 : Int32} {x2 : Int32} {x3 : Int32} {h : zz_H} {t t' : cS} {o : kY} (hR : kR h t s) (hf : cf_25_38 N X x0 x1 x2 x3 t = some (t', o)) (k : (∀ h', kR h' t' s → kE o Q h')) : zz_J zp_P zt_tf zt_fd X d zm_25 38 [(0, .ref x0), (1, .int x1), (2, .int x2), (3, .int x3)] [] h Q := by
  unfold cf_25_38 at hf
  obtain ⟨e0, hf⟩ := ko_if hf
  obtain ⟨e1, hf⟩ := ko_if hf
  obtain ⟨e2, hf⟩ := ko_if hf
  obtain ⟨e3, hf⟩ := ko_if hf
  cases hf
  exact cb_25_38 hR e0 e1 e2 e3 (fun {h} hR => k h hR)
def cf_25_18 (N : Nat) (X : Nat → Option zz_C) (x0 : Nat) (x1 : Int32) (x2 : Int32) (x3 : Int32) (t : cS) : kO := if kH t x0 = true then (if ¬ (x1 < 0 ∨ 8 ≤ (Int32.toNatClampNeg x1)) then (if ¬ ((2 * x3) + 4) < 0 ∧ (Int32.toNatClampNeg ((2 * x3) + 4)) ≤ 1000000 ∧ (kA t (2000000 + 20 * x0 + 1 + 1 + (Int32.toNatClampNeg x1))).1 ≤ 1000000 ∧ ¬ ((2 * x3) + 4) = Int32.ofNat (kA t (2000000 + 20 * x0 + 1 + 1 + (Int32.toNatClampNeg x1))).1 ∧ (kN t) + 1 < zz_out then (cf_25_38 N X x0 x1 x2 x3 (jMv (jNI t 1 (Int32.toNatClampNeg ((2 * x3) + 4)) (kcp 0 (kA t (2000000 + 20 * x0 + 1 + 1 + (Int32.toNatClampNeg x1))).2 (Nat.min (kA t (2000000 + 20 * x0 + 1 + 1 + (Int32.toNatClampNeg x1))).1 (Int32.toNatClampNeg ((2 * x3) + 4))))) (2000000 + 20 * x0 + 1 + 1 + (Int32.toNatClampNeg x1)))) else none) else none) else none
theorem cr_25_18 {X : Nat → Option zz_C} {s : mS} {N : Nat} {d : Nat} (hd : 9 ≤ d) {Q : zz_O → zz_H → Prop} {x0 : Nat} {x1 : Int32} {x2 : Int32} {x3 : Int32} {h : zz_H} {t t' : cS} {o : kY} (hR : kR h t s) (hf : cf_25_18 N X x0 x1 x2 x3 t = some (t', o)) (k : (∀ h', kR h' t' s → kE o Q h')) : zz_J zp_P zt_tf zt_fd X d zm_25 18 [(0, .ref x0), (1, .int x1), (2, .int x2), (3, .int x3)] [] h Q := by
  unfold cf_25_18 at hf
  obtain ⟨e0, hf⟩ := ko_if hf
  obtain ⟨e1, hf⟩ := ko_if hf
  obtain ⟨e2, hf⟩ := ko_if hf
  obtain ⟨d', rfl⟩ : ∃ d', d = d' + 9 := ⟨d - 9, by omega⟩
  exact cb_25_18 hR e0 e1 e2 (fun hR => cr_25_38 hd hR hf k)
def cf_25_0 (N : Nat) (X : Nat → Option zz_C) (x0 : Nat) (x1 : Int32) (x2 : Int32) (t : cS) : kO := if kH t x0 = true then (if ¬ (x1 < 0 ∨ (kA t (2000000 + 20 * x0 + 10)).1 ≤ (Int32.toNatClampNeg x1)) then (if ¬ (x1 < 0 ∨ 8 ≤ (Int32.toNatClampNeg x1)) then (if ((kA t (2000000 + 20 * x0 + 10)).2 (Int32.toNatClampNeg x1)) < (Int32.ofNat (kA t (2000000 + 20 * x0 + 1 + 1 + (Int32.toNatClampNeg x1))).1) then cf_25_38 N X x0 x1 x2 ((kA t (2000000 + 20 * x0 + 10)).2 (Int32.toNatClampNeg x1)) t else cf_25_18 N X x0 x1 x2 ((kA t (2000000 + 20 * x0 + 10)).2 (Int32.toNatClampNeg x1)) t) else none) else none) else none
theorem cr_25_0 {X : Nat → Option zz_C} {s : mS} {N : Nat} {d : Nat} (hd : 9 ≤ d) {Q : zz_O → zz_H → Prop} {x0 : Nat} {x1 : Int32} {x2 : Int32} {h : zz_H} {t t' : cS} {o : kY} (hR : kR h t s) (hf : cf_25_0 N X x0 x1 x2 t = some (t', o)) (k : (∀ h', kR h' t' s → kE o Q h')) : zz_J zp_P zt_tf zt_fd X d zm_25 0 [(0, .ref x0), (1, .int x1), (2, .int x2)] [] h Q := by
  unfold cf_25_0 at hf
  obtain ⟨e0, hf⟩ := ko_if hf
  obtain ⟨e1, hf⟩ := ko_if hf
  obtain ⟨e2, hf⟩ := ko_if hf
  refine cb_25_0 hR e0 e1 e2 (fun c {h} hR => ?_) (fun c {h} hR => ?_)
  · rw [if_pos c] at hf
    exact cr_25_38 hd hR hf k
  · rw [if_neg c] at hf
    exact cr_25_18 hd hR hf k
/-- put -/
def cf_25 (N : Nat) (X : Nat → Option zz_C) (x0 : Nat) (x1 : Int32) (x2 : Int32) (t : cS) : kO := cf_25_0 N X x0 x1 x2 t
theorem cr_25 {X : Nat → Option zz_C} {s : mS} {N : Nat} {d : Nat} (hd : 9 ≤ d) {Q : zz_O → zz_H → Prop} {x0 : Nat} {x1 : Int32} {x2 : Int32} {h : zz_H} {t t' : cS} {o : kY} (hR : kR h t s) (hf : cf_25 N X x0 x1 x2 t = some (t', o)) (k : ∀ h', kR h' t' s → kE o Q h') : zz_J zp_P zt_tf zt_fd X d zm_25 0 [(0, .ref x0), (1, .int x1), (2, .int x2)] [] h Q := by
  unfold cf_25 at hf
  exact zz_J.weak (cr_25_0 hd hR hf k) rfl ⟨rfl, rfl, rfl, trivial⟩
/-! yX7_writeRow (ILTallySlate$Heap;J)V -/
theorem cb_221_0 {X : Nat → Option zz_C} {h : zz_H} {t : cS} {s : mS} {d : Nat} {Q : zz_O → zz_H → Prop} {x0 : Nat} {x1 : Int32} {x3 : Int64} (hR : kR h t s) (k : ∀ {h : zz_H}, kR h t s → zz_J zp_P zt_tf zt_fd X d zm_128 0 [(0, .ref 42), (1, .long x3)] [] h (zz_after 2 Q (fun v h' => zz_J zp_P zt_tf zt_fd X (d + 1) zm_221 5 [(0, .ref x0), (1, .int x1), (2, .ref 42), (3, .long x3)] (v.toList ++ []) h' Q))) : zz_J zp_P zt_tf zt_fd X (d + 1) zm_221 0 [(0, .ref x0), (1, .int x1), (2, .ref 42), (3, .long x3)] [] h Q := by
  refine zz_J.n 1 rfl rfl rfl ?_
  refine zz_J.n 2 rfl rfl rfl ?_
  refine zz_J.cv 5 (as := []) rfl rfl (hR.clO ko_42 (by decide) (by decide)) (by decide) (Nat.le_of_ble_eq_true rfl) (Nat.le_of_ble_eq_true rfl) rfl (Nat.le_of_ble_eq_true rfl) rfl ?_
  refine zz_J.mono (k hR) ?_
  intro o h' hE
  cases o with
  | inl v => exact zz_J.weak hE rfl ⟨rfl, rfl, rfl, rfl, trivial⟩
  | inr q => exact hE
theorem cb_221_5 {X : Nat → Option zz_C} {h : zz_H} {t : cS} {s : mS} {d : Nat} {Q : zz_O → zz_H → Prop} {x0 : Nat} {x1 : Int32} {x3 : Int64} {y0 : Int32} (hR : kR h t s) (e0 : kH t x0 = true) (k : ∀ {h : zz_H}, kR h t s → zz_J zp_P zt_tf zt_fd X d zm_25 0 [(0, .ref x0), (1, .int x1), (2, .int y0)] [] h (zz_after 7 Q (fun v h' => zz_J zp_P zt_tf zt_fd X (d + 1) zm_221 14 [(0, .ref x0), (1, .int x1), (2, .ref 42), (3, .long x3), (5, .int y0)] (v.toList ++ []) h' Q))) : zz_J zp_P zt_tf zt_fd X (d + 1) zm_221 5 [(0, .ref x0), (1, .int x1), (2, .ref 42), (3, .long x3)] [.int y0] h Q := by
  refine zz_J.n 7 rfl rfl rfl ?_
  refine zz_J.n 8 rfl rfl rfl ?_
  refine zz_J.n 9 rfl rfl rfl ?_
  refine zz_J.n 11 rfl rfl rfl ?_
  refine zz_J.cv 14 (as := []) rfl rfl (hR.clS e0 (by decide)) (by decide) (Nat.le_of_ble_eq_true rfl) (Nat.le_of_ble_eq_true rfl) rfl (Nat.le_of_ble_eq_true rfl) rfl ?_
  refine zz_J.mono (k hR) ?_
  intro o h' hE
  cases o with
  | inl v => exact zz_J.weak hE rfl ⟨rfl, rfl, rfl, rfl, rfl, trivial⟩
  | inr q => exact hE
theorem cb_221_14 {X : Nat → Option zz_C} {h : zz_H} {t : cS} {s : mS} {d : Nat} {Q : zz_O → zz_H → Prop} {x0 : Nat} {x1 : Int32} {x3 : Int64} {x5 : Int32} (hR : kR h t s) (k : ∀ {h : zz_H}, kR h t s → zz_J zp_P zt_tf zt_fd X d zm_221 17 [(0, .ref x0), (1, .int x1), (2, .ref 42), (3, .long x3), (5, .int x5), (6, .int 0)] [] h Q) : zz_J zp_P zt_tf zt_fd X d zm_221 14 [(0, .ref x0), (1, .int x1), (2, .ref 42), (3, .long x3), (5, .int x5)] [] h Q := by
  refine zz_J.c 15 (.int 0) rfl rfl rfl rfl ?_
  refine zz_J.n 17 rfl rfl rfl ?_
  exact zz_J.weak (k hR) rfl ⟨rfl, rfl, rfl, rfl, rfl, rfl, trivial⟩
theorem cb_221_17 {X : Nat → Option zz_C} {h : zz_H} {t : cS} {s : mS} {d : Nat} {Q : zz_O → zz_H → Prop} {x0 : Nat} {x1 : Int32} {x3 : Int64} {x5 : Int32} {x6 : Int32} (hR : kR h t s) (k1 : x5 ≤ x6 → (∀ {h : zz_H}, kR h t s → zz_J zp_P zt_tf zt_fd X d zm_221 42 [] [] h Q)) (k2 : ¬ x5 ≤ x6 → (∀ {h : zz_H}, kR h t s → zz_J zp_P zt_tf zt_fd X d zm_221 24 [(0, .ref x0), (1, .int x1), (2, .ref 42), (3, .long x3), (5, .int x5), (6, .int x6)] [] h Q)) : zz_J zp_P zt_tf zt_fd X d zm_221 17 [(0, .ref x0), (1, .int x1), (2, .ref 42), (3, .long x3), (5, .int x5), (6, .int x6)] [] h Q := by
  refine zz_J.n 19 rfl rfl rfl ?_
  refine zz_J.n 21 rfl rfl rfl ?_
  refine zz_J.b2 42 24 (A := x5 ≤ x6) rfl rfl (by decide) rfl rfl (fun c => ?_) (fun c => ?_)
  · exact zz_J.weak (k1 c hR) rfl trivial
  · exact zz_J.weak (k2 c hR) rfl ⟨rfl, rfl, rfl, rfl, rfl, rfl, trivial⟩
theorem cb_221_24 {X : Nat → Option zz_C} {h : zz_H} {t : cS} {s : mS} {d : Nat} {Q : zz_O → zz_H → Prop} {x0 : Nat} {x1 : Int32} {x3 : Int64} {x5 : Int32} {x6 : Int32} (hR : kR h t s) (k : ∀ {h : zz_H}, kR h t s → zz_J zp_P zt_tf zt_fd X d zm_130 0 [(0, .ref 42), (1, .long x3), (3, .int x6)] [] h (zz_after 2 Q (fun v h' => zz_J zp_P zt_tf zt_fd X (d + 1) zm_221 33 [(0, .ref x0), (1, .int x1), (2, .ref 42), (3, .long x3), (5, .int x5), (6, .int x6)] (v.toList ++ [.int x1, .ref x0]) h' Q))) : zz_J zp_P zt_tf zt_fd X (d + 1) zm_221 24 [(0, .ref x0), (1, .int x1), (2, .ref 42), (3, .long x3), (5, .int x5), (6, .int x6)] [] h Q := by
  refine zz_J.n 25 rfl rfl rfl ?_
  refine zz_J.n 26 rfl rfl rfl ?_
  refine zz_J.n 27 rfl rfl rfl ?_
  refine zz_J.n 28 rfl rfl rfl ?_
  refine zz_J.n 30 rfl rfl rfl ?_
  refine zz_J.cv 33 (as := [.int x1, .ref x0]) rfl rfl (hR.clO ko_42 (by decide) (by decide)) (by decide) (Nat.le_of_ble_eq_true rfl) (Nat.le_of_ble_eq_true rfl) rfl (Nat.le_of_ble_eq_true rfl) rfl ?_
  refine zz_J.mono (k hR) ?_
  intro o h' hE
  cases o with
  | inl v => exact zz_J.weak hE rfl ⟨rfl, rfl, rfl, rfl, rfl, rfl, trivial⟩
  | inr q => exact hE
theorem cb_221_33 {X : Nat → Option zz_C} {h : zz_H} {t : cS} {s : mS} {d : Nat} {Q : zz_O → zz_H → Prop} {x0 : Nat} {x1 : Int32} {x3 : Int64} {x5 : Int32} {x6 : Int32} {y0 : Nat} {y1 : Int32} {y2 : Int32} (hR : kR h t s) (e0 : kH t y0 = true) (k : ∀ {h : zz_H}, kR h t s → zz_J zp_P zt_tf zt_fd X d zm_25 0 [(0, .ref y0), (1, .int y1), (2, .int y2)] [] h (zz_after 7 Q (fun v h' => zz_J zp_P zt_tf zt_fd X (d + 1) zm_221 36 [(0, .ref x0), (1, .int x1), (2, .ref 42), (3, .long x3), (5, .int x5), (6, .int x6)] (v.toList ++ []) h' Q))) : zz_J zp_P zt_tf zt_fd X (d + 1) zm_221 33 [(0, .ref x0), (1, .int x1), (2, .ref 42), (3, .long x3), (5, .int x5), (6, .int x6)] [.int y2, .int y1, .ref y0] h Q := by
  refine zz_J.cv 36 (as := []) rfl rfl (hR.clS e0 (by decide)) (by decide) (Nat.le_of_ble_eq_true rfl) (Nat.le_of_ble_eq_true rfl) rfl (Nat.le_of_ble_eq_true rfl) rfl ?_
  refine zz_J.mono (k hR) ?_
  intro o h' hE
  cases o with
  | inl v => exact zz_J.weak hE rfl ⟨rfl, rfl, rfl, rfl, rfl, rfl, trivial⟩
  | inr q => exact hE
theorem cb_221_36 {X : Nat → Option zz_C} {h : zz_H} {t : cS} {s : mS} {d : Nat} {Q : zz_O → zz_H → Prop} {x0 : Nat} {x1 : Int32} {x3 : Int64} {x5 : Int32} {x6 : Int32} (hR : kR h t s) (k : ∀ {h : zz_H}, kR h t s → zz_J zp_P zt_tf zt_fd X d zm_221 17 [(0, .ref x0), (1, .int x1), (2, .ref 42), (3, .long x3), (5, .int x5), (6, .int (x6 + 1))] [] h Q) : zz_J zp_P zt_tf zt_fd X d zm_221 36 [(0, .ref x0), (1, .int x1), (2, .ref 42), (3, .long x3), (5, .int x5), (6, .int x6)] [] h Q := by
  refine zz_J.n 39 rfl rfl rfl ?_
  refine zz_J.n 17 rfl rfl rfl ?_
  exact zz_J.weak (k hR) rfl ⟨rfl, rfl, rfl, rfl, rfl, rfl, trivial⟩
theorem cb_221_42 {X : Nat → Option zz_C} {h : zz_H} {t : cS} {s : mS} {d : Nat} {Q : zz_O → zz_H → Prop}  (hR : kR h t s) (k : ∀ {h : zz_H}, kR h t s → Q (.inl none) h) : zz_J zp_P zt_tf zt_fd X d zm_221 42 [] [] h Q := by
  refine zz_J.ret rfl rfl rfl ?_
  exact k hR
def cf_221_42 (N : Nat) (X : Nat → Option zz_C)  (t : cS) : kO := some (t, .inl none)
theorem cr_221_42 {X : Nat → Option zz_C} {s : mS} {N : Nat} {d : Nat} (hd : 10 ≤ d) {Q : zz_O → zz_H → Prop}  {h : zz_H} {t t' : cS} {o : kY} (hR : kR h t s) (hf : cf_221_42 N X  t = some (t', o)) (k : (∀ h', kR h' t' s → kE o Q h')) : zz_J zp_P zt_tf zt_fd X d zm_221 42 [] [] h Q := by
  unfold cf_221_42 at hf
  cases hf
  exact cb_221_42 hR  (fun {h} hR => k h hR)
def cf_221_36 (N : Nat) (X : Nat → Option zz_C) (rc : Nat → Nat → Int32 → Int64 → Int32 → Int32 → cS → kO) (x0 : Nat) (x1 : Int32) (x3 : Int64) (x5 : Int32) (x6 : Int32) (t : cS) : kO := rc 0 x0 x1 x3 x5 (x6 + 1) t
theorem cr_221_36 {X : Nat → Option zz_C} {s : mS} {N : Nat} {d : Nat} (hd : 10 ≤ d) {rc : Nat → Nat → Int32 → Int64 → Int32 → Int32 → cS → kO} (hrc0 : ∀ {Q : zz_O → zz_H → Prop} {x0 : Nat} {x1 : Int32} {x3 : Int64} {x5 : Int32} {x6 : Int32} {h : zz_H} {t t' : cS} {o : kY}, kR h t s → rc 0 x0 x1 x3 x5 x6 t = some (t', o) → (∀ h', kR h' t' s → kE o Q h') → zz_J zp_P zt_tf zt_fd X d zm_221 17 [(0, .ref x0), (1, .int x1), (2, .ref 42), (3, .long x3), (5, .int x5), (6, .int x6)] [] h Q) {Q : zz_O → zz_H → Prop} {x0 : Nat} {x1 : Int32} {x3 : Int64} {x5 : Int32} {x6 : Int32} {h : zz_H} {t t' : cS} {o : kY} (hR : kR h t s) (hf : cf_221_36 N X rc x0 x1 x3 x5 x6 t = some (t', o)) (k : (∀ h', kR h' t' s → kE o Q h')) : zz_J zp_P zt_tf zt_fd X d zm_221 36 [(0, .ref x0), (1, .int x1), (2, .ref 42), (3, .long x3), (5, .int x5), (6, .int x6)] [] h Q := by
  unfold cf_221_36 at hf
  exact cb_221_36 hR  (fun hR => hrc0 hR hf k)
def cf_221_33 (N : Nat) (X : Nat → Option zz_C) (rc : Nat → Nat → Int32 → Int64 → Int32 → Int32 → cS → kO) (x0 : Nat) (x1 : Int32) (x3 : Int64) (x5 : Int32) (x6 : Int32) (y0 : Nat) (y1 : Int32) (y2 : Int32) (t : cS) : kO := if kH t y0 = true then (ko_call 7 (cf_25 N X y0 y1 y2 t) (fun g1 v1 => co_v v1 (cf_221_36 N X rc x0 x1 x3 x5 x6 g1))) else none
theorem cr_221_33 {X : Nat → Option zz_C} {s : mS} {N : Nat} {d : Nat} (hd : 10 ≤ d) {rc : Nat → Nat → Int32 → Int64 → Int32 → Int32 → cS → kO} (hrc0 : ∀ {Q : zz_O → zz_H → Prop} {x0 : Nat} {x1 : Int32} {x3 : Int64} {x5 : Int32} {x6 : Int32} {h : zz_H} {t t' : cS} {o : kY}, kR h t s → rc 0 x0 x1 x3 x5 x6 t = some (t', o) → (∀ h', kR h' t' s → kE o Q h') → zz_J zp_P zt_tf zt_fd X d zm_221 17 [(0, .ref x0), (1, .int x1), (2, .ref 42), (3, .long x3), (5, .int x5), (6, .int x6)] [] h Q) {Q : zz_O → zz_H → Prop} {x0 : Nat} {x1 : Int32} {x3 : Int64} {x5 : Int32} {x6 : Int32} {y0 : Nat} {y1 : Int32} {y2 : Int32} {h : zz_H} {t t' : cS} {o : kY} (hR : kR h t s) (hf : cf_221_33 N X rc x0 x1 x3 x5 x6 y0 y1 y2 t = some (t', o)) (k : (∀ h', kR h' t' s → kE o Q h')) : zz_J zp_P zt_tf zt_fd X d zm_221 33 [(0, .ref x0), (1, .int x1), (2, .ref 42), (3, .long x3), (5, .int x5), (6, .int x6)] [.int y2, .int y1, .ref y0] h Q := by
  unfold cf_221_33 at hf
  obtain ⟨e0, hf⟩ := ko_if hf
  obtain ⟨d', rfl⟩ : ∃ d', d = d' + 1 := ⟨d - 1, by omega⟩
  refine cb_221_33 hR e0 (fun {h} hR => ?_)
  rcases ko_call_ok hf with ⟨g1, v1, er, hf⟩ | ⟨g1, er, hq⟩
  · obtain ⟨hv, hf2⟩ := co_v_ok hf
    clear hf
    have hf := hf2
    clear hf2
    subst hv
    refine cr_25 (by omega) hR er (fun h hR => ?_)
    exact cr_221_36 hd hrc0 hR hf k
  · refine cr_25 (by omega) hR er (fun h hR => ?_)
    exact ko_thrown hq hR k
def cf_221_24 (N : Nat) (X : Nat → Option zz_C) (rc : Nat → Nat → Int32 → Int64 → Int32 → Int32 → cS → kO) (x0 : Nat) (x1 : Int32) (x3 : Int64) (x5 : Int32) (x6 : Int32) (t : cS) : kO := ko_call 2 (cf_130 N X x3 x6 t) (fun g1 v1 => co_i v1 (fun y => cf_221_33 N X rc x0 x1 x3 x5 x6 x0 x1 y g1))
theorem cr_221_24 {X : Nat → Option zz_C} {s : mS} {N : Nat} {d : Nat} (hd : 10 ≤ d) {rc : Nat → Nat → Int32 → Int64 → Int32 → Int32 → cS → kO} (hrc0 : ∀ {Q : zz_O → zz_H → Prop} {x0 : Nat} {x1 : Int32} {x3 : Int64} {x5 : Int32} {x6 : Int32} {h : zz_H} {t t' : cS} {o : kY}, kR h t s → rc 0 x0 x1 x3 x5 x6 t = some (t', o) → (∀ h', kR h' t' s → kE o Q h') → zz_J zp_P zt_tf zt_fd X d zm_221 17 [(0, .ref x0), (1, .int x1), (2, .ref 42), (3, .long x3), (5, .int x5), (6, .int x6)] [] h Q) {Q : zz_O → zz_H → Prop} {x0 : Nat} {x1 : Int32} {x3 : Int64} {x5 : Int32} {x6 : Int32} {h : zz_H} {t t' : cS} {o : kY} (hR : kR h t s) (hf : cf_221_24 N X rc x0 x1 x3 x5 x6 t = some (t', o)) (k : (∀ h', kR h' t' s → kE o Q h')) : zz_J zp_P zt_tf zt_fd X d zm_221 24 [(0, .ref x0), (1, .int x1), (2, .ref 42), (3, .long x3), (5, .int x5), (6, .int x6)] [] h Q := by
  unfold cf_221_24 at hf
  obtain ⟨d', rfl⟩ : ∃ d', d = d' + 1 := ⟨d - 1, by omega⟩
  refine cb_221_24 hR  (fun {h} hR => ?_)
  rcases ko_call_ok hf with ⟨g1, v1, er, hf⟩ | ⟨g1, er, hq⟩
  · obtain ⟨y, hv, hf2⟩ := co_i_ok hf
    clear hf
    have hf := hf2
    clear hf2
    subst hv
    refine cr_130 (by omega) hR er (fun h hR => ?_)
    exact cr_221_33 hd hrc0 hR hf k
  · refine cr_130 (by omega) hR er (fun h hR => ?_)
    exact ko_thrown hq hR k
def cf_221_17 (N : Nat) (X : Nat → Option zz_C) (rc : Nat → Nat → Int32 → Int64 → Int32 → Int32 → cS → kO) (x0 : Nat) (x1 : Int32) (x3 : Int64) (x5 : Int32) (x6 : Int32) (t : cS) : kO := if x5 ≤ x6 then cf_221_42 N X  t else cf_221_24 N X rc x0 x1 x3 x5 x6 t
theorem cr_221_17 {X : Nat → Option zz_C} {s : mS} {N : Nat} {d : Nat} (hd : 10 ≤ d) {rc : Nat → Nat → Int32 → Int64 → Int32 → Int32 → cS → kO} (hrc0 : ∀ {Q : zz_O → zz_H → Prop} {x0 : Nat} {x1 : Int32} {x3 : Int64} {x5 : Int32} {x6 : Int32} {h : zz_H} {t t' : cS} {o : kY}, kR h t s → rc 0 x0 x1 x3 x5 x6 t = some (t', o) → (∀ h', kR h' t' s → kE o Q h') → zz_J zp_P zt_tf zt_fd X d zm_221 17 [(0, .ref x0), (1, .int x1), (2, .ref 42), (3, .long x3), (5, .int x5), (6, .int x6)] [] h Q) {Q : zz_O → zz_H → Prop} {x0 : Nat} {x1 : Int32} {x3 : Int64} {x5 : Int32} {x6 : Int32} {h : zz_H} {t t' : cS} {o : kY} (hR : kR h t s) (hf : cf_221_17 N X rc x0 x1 x3 x5 x6 t = some (t', o)) (k : (∀ h', kR h' t' s → kE o Q h')) : zz_J zp_P zt_tf zt_fd X d zm_221 17 [(0, .ref x0), (1, .int x1), (2, .ref 42), (3, .long x3), (5, .int x5), (6, .int x6)] [] h Q := by
  unfold cf_221_17 at hf
  refine cb_221_17 hR  (fun c {h} hR => ?_) (fun c {h} hR => ?_)
  · rw [if_pos c] at hf
    exact cr_221_42 hd hR hf k
  · rw [if_neg c] at hf
    exact cr_221_24 hd hrc0 hR hf k
def cf_221_L1 (N : Nat) (X : Nat → Option zz_C) : Nat → Nat → Nat → Int32 → Int64 → Int32 → Int32 → cS → kO
  | 0, _, _, _, _, _, _, _ => none
  | n + 1, l, x0, x1, x3, x5, x6, t => if l = 0 then cf_221_17 N X (cf_221_L1 N X n) x0 x1 x3 x5 x6 t else none
theorem cr_221_L1 {X : Nat → Option zz_C} {s : mS} {N : Nat} {d : Nat} (hd : 10 ≤ d) : ∀ n : Nat, (∀ {Q : zz_O → zz_H → Prop} {x0 : Nat} {x1 : Int32} {x3 : Int64} {x5 : Int32} {x6 : Int32} {h : zz_H} {t t' : cS} {o : kY}, kR h t s → cf_221_L1 N X n 0 x0 x1 x3 x5 x6 t = some (t', o) → (∀ h', kR h' t' s → kE o Q h') → zz_J zp_P zt_tf zt_fd X d zm_221 17 [(0, .ref x0), (1, .int x1), (2, .ref 42), (3, .long x3), (5, .int x5), (6, .int x6)] [] h Q) := by
  intro n
  induction n with
  | zero => exact (fun _ hf _ => by cases hf)
  | succ n ih =>
    have h0 := @ih
    intro Q _ _ _ _ _ h t t' o hR hf k
    unfold cf_221_L1 at hf
    rw [if_pos rfl] at hf
    exact cr_221_17 hd h0 hR hf k
def cf_221_14 (N : Nat) (X : Nat → Option zz_C) (x0 : Nat) (x1 : Int32) (x3 : Int64) (x5 : Int32) (t : cS) : kO := cf_221_L1 N X N 0 x0 x1 x3 x5 0 t
theorem cr_221_14 {X : Nat → Option zz_C} {s : mS} {N : Nat} {d : Nat} (hd : 10 ≤ d) {Q : zz_O → zz_H → Prop} {x0 : Nat} {x1 : Int32} {x3 : Int64} {x5 : Int32} {h : zz_H} {t t' : cS} {o : kY} (hR : kR h t s) (hf : cf_221_14 N X x0 x1 x3 x5 t = some (t', o)) (k : (∀ h', kR h' t' s → kE o Q h')) : zz_J zp_P zt_tf zt_fd X d zm_221 14 [(0, .ref x0), (1, .int x1), (2, .ref 42), (3, .long x3), (5, .int x5)] [] h Q := by
  unfold cf_221_14 at hf
  exact cb_221_14 hR  (fun hR => cr_221_L1 hd N hR hf k)
def cf_221_5 (N : Nat) (X : Nat → Option zz_C) (x0 : Nat) (x1 : Int32) (x3 : Int64) (y0 : Int32) (t : cS) : kO := if kH t x0 = true then (ko_call 7 (cf_25 N X x0 x1 y0 t) (fun g1 v1 => co_v v1 (cf_221_14 N X x0 x1 x3 y0 g1))) else none
theorem cr_221_5 {X : Nat → Option zz_C} {s : mS} {N : Nat} {d : Nat} (hd : 10 ≤ d) {Q : zz_O → zz_H → Prop} {x0 : Nat} {x1 : Int32} {x3 : Int64} {y0 : Int32} {h : zz_H} {t t' : cS} {o : kY} (hR : kR h t s) (hf : cf_221_5 N X x0 x1 x3 y0 t = some (t', o)) (k : (∀ h', kR h' t' s → kE o Q h')) : zz_J zp_P zt_tf zt_fd X d zm_221 5 [(0, .ref x0), (1, .int x1), (2, .ref 42), (3, .long x3)] [.int y0] h Q := by
  unfold cf_221_5 at hf
  obtain ⟨e0, hf⟩ := ko_if hf
  obtain ⟨d', rfl⟩ : ∃ d', d = d' + 1 := ⟨d - 1, by omega⟩
  refine cb_221_5 hR e0 (fun {h} hR => ?_)
  rcases ko_call_ok hf with ⟨g1, v1, er, hf⟩ | ⟨g1, er, hq⟩
  · obtain ⟨hv, hf2⟩ := co_v_ok hf
    clear hf
    have hf := hf2
    clear hf2
    subst hv
    refine cr_25 (by omega) hR er (fun h hR => ?_)
    exact cr_221_14 hd hR hf k
  · refine cr_25 (by omega) hR er (fun h hR => ?_)
    exact ko_thrown hq hR k
def cf_221_0 (N : Nat) (X : Nat → Option zz_C) (x0 : Nat) (x1 : Int32) (x3 : Int64) (t : cS) : kO := ko_call 2 (cf_128 N X x3 t) (fun g1 v1 => co_i v1 (fun y => cf_221_5 N X x0 x1 x3 y g1))
theorem cr_221_0 {X : Nat → Option zz_C} {s : mS} {N : Nat} {d : Nat} (hd : 10 ≤ d) {Q : zz_O → zz_H → Prop} {x0 : Nat} {x1 : Int32} {x3 : Int64} {h : zz_H} {t t' : cS} {o : kY} (hR : kR h t s) (hf : cf_221_0 N X x0 x1 x3 t = some (t', o)) (k : (∀ h', kR h' t' s → kE o Q h')) : zz_J zp_P zt_tf zt_fd X d zm_221 0 [(0, .ref x0), (1, .int x1), (2, .ref 42), (3, .long x3)] [] h Q := by
  unfold cf_221_0 at hf
  obtain ⟨d', rfl⟩ : ∃ d', d = d' + 1 := ⟨d - 1, by omega⟩
  refine cb_221_0 hR  (fun {h} hR => ?_)
  rcases ko_call_ok hf with ⟨g1, v1, er, hf⟩ | ⟨g1, er, hq⟩
  · obtain ⟨y, hv, hf2⟩ := co_i_ok hf
    clear hf
    have hf := hf2
    clear hf2
    subst hv
    refine cr_128 (by omega) hR er (fun h hR => ?_)
    exact cr_221_5 hd hR hf k
  · refine cr_128 (by omega) hR er (fun h hR => ?_)
    exact ko_thrown hq hR k
/-- writeRow -/
def cf_221 (N : Nat) (X : Nat → Option zz_C) (x0 : Nat) (x1 : Int32) (x3 : Int64) (t : cS) : kO := cf_221_0 N X x0 x1 x3 t
theorem cr_221 {X : Nat → Option zz_C} {s : mS} {N : Nat} {d : Nat} (hd : 10 ≤ d) {Q : zz_O → zz_H → Prop} {x0 : Nat} {x1 : Int32} {x3 : Int64} {h : zz_H} {t t' : cS} {o : kY} (hR : kR h t s) (hf : cf_221 N X x0 x1 x3 t = some (t', o)) (k : ∀ h', kR h' t' s → kE o Q h') : zz_J zp_P zt_tf zt_fd X d zm_221 0 [(0, .ref x0), (1, .int x1), (2, .ref 42), (3, .long x3)] [] h Q := by
  unfold cf_221 at hf
  exact zz_J.weak (cr_221_0 hd hR hf k) rfl ⟨rfl, rfl, rfl, rfl, trivial⟩
/-! a group that calls itself: writeThing -/
def cK5 (X : Nat → Option zz_C) (s : mS) (D : Nat) (rk : Nat → List Value → cS → kO) : Prop := (∀ {d : Nat} (_ : D ≤ d) {Q : zz_O → zz_H → Prop} {x0 : Nat} {x1 : Int32} {x3 : Int64} {x5 : Int32} {h : zz_H} {t t' : cS} {o : kY} (_ : kR h t s) (_ : rk 220 [.ref x0, .int x1, .long x3, .int x5] t = some (t', o)) (_ : ∀ h', kR h' t' s → kE o Q h'), zz_J zp_P zt_tf zt_fd X d zm_220 0 [(0, .ref x0), (1, .int x1), (2, .ref 42), (3, .long x3), (5, .int x5)] [] h Q)
/-! yX7_writeThing -/
theorem cb_220_0 {X : Nat → Option zz_C} {h : zz_H} {t : cS} {s : mS} {d : Nat} {Q : zz_O → zz_H → Prop} {x0 : Nat} {x1 : Int32} {x3 : Int64} {x5 : Int32} (hR : kR h t s) (k : ∀ {h : zz_H}, kR h t s → zz_J zp_P zt_tf zt_fd X d zm_255 0 [(0, .long x3)] [] h (zz_after 1000 Q (fun v h' => zz_J zp_P zt_tf zt_fd X (d + 1) zm_220 4 [(0, .ref x0), (1, .int x1), (2, .ref 42), (3, .long x3), (5, .int x5)] (v.toList ++ []) h' Q))) : zz_J zp_P zt_tf zt_fd X (d + 1) zm_220 0 [(0, .ref x0), (1, .int x1), (2, .ref 42), (3, .long x3), (5, .int x5)] [] h Q := by
  refine zz_J.n 1 rfl rfl rfl ?_
  refine zz_J.cl (M' := zm_255) 4 rfl rfl (by decide) rfl rfl ⟨rfl, Nat.le_of_ble_eq_true rfl⟩ rfl ?_
  refine zz_J.mono (k hR) ?_
  intro o h' hE
  cases o with
  | inl v => exact zz_J.weak hE rfl ⟨rfl, rfl, rfl, rfl, rfl, trivial⟩
  | inr q => exact hE
theorem cb_220_4 {X : Nat → Option zz_C} {h : zz_H} {t : cS} {s : mS} {d : Nat} {Q : zz_O → zz_H → Prop} {x0 : Nat} {x1 : Int32} {x3 : Int64} {x5 : Int32} {y0 : Int32} (hR : kR h t s) (e0 : kH t x0 = true) (k : ∀ {h : zz_H}, kR h t s → zz_J zp_P zt_tf zt_fd X d zm_25 0 [(0, .ref x0), (1, .int x1), (2, .int y0)] [] h (zz_after 7 Q (fun v h' => zz_J zp_P zt_tf zt_fd X (d + 1) zm_220 13 [(0, .ref x0), (1, .int x1), (2, .ref 42), (3, .long x3), (5, .int x5), (6, .int y0)] (v.toList ++ []) h' Q))) : zz_J zp_P zt_tf zt_fd X (d + 1) zm_220 4 [(0, .ref x0), (1, .int x1), (2, .ref 42), (3, .long x3), (5, .int x5)] [.int y0] h Q := by
  refine zz_J.n 6 rfl rfl rfl ?_
  refine zz_J.n 7 rfl rfl rfl ?_
  refine zz_J.n 8 rfl rfl rfl ?_
  refine zz_J.n 10 rfl rfl rfl ?_
  refine zz_J.cv 13 (as := []) rfl rfl (hR.clS e0 (by decide)) (by decide) (Nat.le_of_ble_eq_true rfl) (Nat.le_of_ble_eq_true rfl) rfl (Nat.le_of_ble_eq_true rfl) rfl ?_
  refine zz_J.mono (k hR) ?_
  intro o h' hE
  cases o with
  | inl v => exact zz_J.weak hE rfl ⟨rfl, rfl, rfl, rfl, rfl, rfl, trivial⟩
  | inr q => exact hE
theorem cb_220_13 {X : Nat → Option zz_C} {h : zz_H} {t : cS} {s : mS} {d : Nat} {Q : zz_O → zz_H → Prop} {x0 : Nat} {x1 : Int32} {x3 : Int64} {x5 : Int32} {x6 : Int32} (hR : kR h t s) (k1 : x6 = 0 → (∀ {h : zz_H}, kR h t s → zz_J zp_P zt_tf zt_fd X d zm_220 24 [(0, .ref x0), (1, .int x1), (3, .long x3)] [] h Q)) (k2 : ¬ x6 = 0 → (∀ {h : zz_H}, kR h t s → zz_J zp_P zt_tf zt_fd X d zm_220 18 [(0, .ref x0), (1, .int x1), (2, .ref 42), (3, .long x3), (5, .int x5), (6, .int x6)] [] h Q)) : zz_J zp_P zt_tf zt_fd X d zm_220 13 [(0, .ref x0), (1, .int x1), (2, .ref 42), (3, .long x3), (5, .int x5), (6, .int x6)] [] h Q := by
  refine zz_J.n 15 rfl rfl rfl ?_
  refine zz_J.b1 24 18 (A := x6 = 0) rfl rfl (by decide) rfl rfl (fun c => ?_) (fun c => ?_)
  · exact zz_J.weak (k1 c hR) rfl ⟨rfl, rfl, rfl, trivial⟩
  · exact zz_J.weak (k2 c hR) rfl ⟨rfl, rfl, rfl, rfl, rfl, rfl, trivial⟩
theorem cb_220_18 {X : Nat → Option zz_C} {h : zz_H} {t : cS} {s : mS} {d : Nat} {Q : zz_O → zz_H → Prop} {x0 : Nat} {x1 : Int32} {x3 : Int64} {x5 : Int32} {x6 : Int32} (hR : kR h t s) (k1 : x5 ≤ 4 → (∀ {h : zz_H}, kR h t s → zz_J zp_P zt_tf zt_fd X d zm_220 34 [(0, .ref x0), (1, .int x1), (2, .ref 42), (3, .long x3), (5, .int x5), (6, .int x6)] [] h Q)) (k2 : ¬ x5 ≤ 4 → (∀ {h : zz_H}, kR h t s → zz_J zp_P zt_tf zt_fd X d zm_220 24 [(0, .ref x0), (1, .int x1), (3, .long x3)] [] h Q)) : zz_J zp_P zt_tf zt_fd X d zm_220 18 [(0, .ref x0), (1, .int x1), (2, .ref 42), (3, .long x3), (5, .int x5), (6, .int x6)] [] h Q := by
  refine zz_J.n 20 rfl rfl rfl ?_
  refine zz_J.c 21 (.int 4) rfl rfl rfl rfl ?_
  refine zz_J.b2 34 24 (A := x5 ≤ 4) rfl rfl (by decide) rfl rfl (fun c => ?_) (fun c => ?_)
  · exact zz_J.weak (k1 c hR) rfl ⟨rfl, rfl, rfl, rfl, rfl, rfl, trivial⟩
  · exact zz_J.weak (k2 c hR) rfl ⟨rfl, rfl, rfl, trivial⟩
theorem cb_220_24 {X : Nat → Option zz_C} {h : zz_H} {t : cS} {s : mS} {d : Nat} {Q : zz_O → zz_H → Prop} {x0 : Nat} {x1 : Int32} {x3 : Int64} (hR : kR h t s) (k : ∀ {h : zz_H}, kR h t s → zz_J zp_P zt_tf zt_fd X d zm_256 0 [(0, .long x3)] [] h (zz_after 1000 Q (fun v h' => zz_J zp_P zt_tf zt_fd X (d + 1) zm_220 30 [] (v.toList ++ [.int x1, .ref x0]) h' Q))) : zz_J zp_P zt_tf zt_fd X (d + 1) zm_220 24 [(0, .ref x0), (1, .int x1), (3, .long x3)] [] h Q := by
  refine zz_J.n 25 rfl rfl rfl ?_
  refine zz_J.n 26 rfl rfl rfl ?_
  refine zz_J.n 27 rfl rfl rfl ?_
  refine zz_J.cl (M' := zm_256) 30 rfl rfl (by decide) rfl rfl ⟨rfl, Nat.le_of_ble_eq_true rfl⟩ rfl ?_
  refine zz_J.mono (k hR) ?_
  intro o h' hE
  cases o with
  | inl v => exact zz_J.weak hE rfl trivial
  | inr q => exact hE
theorem cb_220_30 {X : Nat → Option zz_C} {h : zz_H} {t : cS} {s : mS} {d : Nat} {Q : zz_O → zz_H → Prop} {y0 : Nat} {y1 : Int32} {y2 : Int32} (hR : kR h t s) (e0 : kH t y0 = true) (k : ∀ {h : zz_H}, kR h t s → zz_J zp_P zt_tf zt_fd X d zm_25 0 [(0, .ref y0), (1, .int y1), (2, .int y2)] [] h (zz_after 7 Q (fun v h' => zz_J zp_P zt_tf zt_fd X (d + 1) zm_220 33 [] (v.toList ++ []) h' Q))) : zz_J zp_P zt_tf zt_fd X (d + 1) zm_220 30 [] [.int y2, .int y1, .ref y0] h Q := by
  refine zz_J.cv 33 (as := []) rfl rfl (hR.clS e0 (by decide)) (by decide) (Nat.le_of_ble_eq_true rfl) (Nat.le_of_ble_eq_true rfl) rfl (Nat.le_of_ble_eq_true rfl) rfl ?_
  refine zz_J.mono (k hR) ?_
  intro o h' hE
  cases o with
  | inl v => exact zz_J.weak hE rfl trivial
  | inr q => exact hE
theorem cb_220_33 {X : Nat → Option zz_C} {h : zz_H} {t : cS} {s : mS} {d : Nat} {Q : zz_O → zz_H → Prop}  (hR : kR h t s) (k : ∀ {h : zz_H}, kR h t s → Q (.inl none) h) : zz_J zp_P zt_tf zt_fd X d zm_220 33 [] [] h Q := by
  refine zz_J.ret rfl rfl rfl ?_
  exact k hR
theorem cb_220_34 {X : Nat → Option zz_C} {h : zz_H} {t : cS} {s : mS} {d : Nat} {Q : zz_O → zz_H → Prop} {x0 : Nat} {x1 : Int32} {x3 : Int64} {x5 : Int32} {x6 : Int32} (hR : kR h t s) (k1 : ¬ x6 = 1 → (∀ {h : zz_H}, kR h t s → zz_J zp_P zt_tf zt_fd X d zm_220 48 [(0, .ref x0), (1, .int x1), (2, .ref 42), (3, .long x3), (5, .int x5), (6, .int x6)] [] h Q)) (k2 : ¬ ¬ x6 = 1 → (∀ {h : zz_H}, kR h t s → zz_J zp_P zt_tf zt_fd X d zm_220 40 [(0, .ref x0), (1, .int x1), (2, .ref 42), (3, .long x3)] [] h Q)) : zz_J zp_P zt_tf zt_fd X d zm_220 34 [(0, .ref x0), (1, .int x1), (2, .ref 42), (3, .long x3), (5, .int x5), (6, .int x6)] [] h Q := by
  refine zz_J.n 36 rfl rfl rfl ?_
  refine zz_J.c 37 (.int 1) rfl rfl rfl rfl ?_
  refine zz_J.b2 48 40 (A := ¬ x6 = 1) rfl (zz_cond_ne _ _) (by decide) rfl rfl (fun c => ?_) (fun c => ?_)
  · exact zz_J.weak (k1 c hR) rfl ⟨rfl, rfl, rfl, rfl, rfl, rfl, trivial⟩
  · exact zz_J.weak (k2 c hR) rfl ⟨rfl, rfl, rfl, rfl, trivial⟩
theorem cb_220_40 {X : Nat → Option zz_C} {h : zz_H} {t : cS} {s : mS} {d : Nat} {Q : zz_O → zz_H → Prop} {x0 : Nat} {x1 : Int32} {x3 : Int64} (hR : kR h t s) (e0 : kH t x0 = true) (k : ∀ {h : zz_H}, kR h t s → zz_J zp_P zt_tf zt_fd X d zm_221 0 [(0, .ref x0), (1, .int x1), (2, .ref 42), (3, .long x3)] [] h (zz_after 7 Q (fun v h' => zz_J zp_P zt_tf zt_fd X (d + 1) zm_220 47 [] (v.toList ++ []) h' Q))) : zz_J zp_P zt_tf zt_fd X (d + 1) zm_220 40 [(0, .ref x0), (1, .int x1), (2, .ref 42), (3, .long x3)] [] h Q := by
  refine zz_J.n 41 rfl rfl rfl ?_
  refine zz_J.n 42 rfl rfl rfl ?_
  refine zz_J.n 43 rfl rfl rfl ?_
  refine zz_J.n 44 rfl rfl rfl ?_
  refine zz_J.cv 47 (as := []) rfl rfl (hR.clS e0 (by decide)) (by decide) (Nat.le_of_ble_eq_true rfl) (Nat.le_of_ble_eq_true rfl) rfl (Nat.le_of_ble_eq_true rfl) rfl ?_
  refine zz_J.mono (k hR) ?_
  intro o h' hE
  cases o with
  | inl v => exact zz_J.weak hE rfl trivial
  | inr q => exact hE
theorem cb_220_47 {X : Nat → Option zz_C} {h : zz_H} {t : cS} {s : mS} {d : Nat} {Q : zz_O → zz_H → Prop}  (hR : kR h t s) (k : ∀ {h : zz_H}, kR h t s → Q (.inl none) h) : zz_J zp_P zt_tf zt_fd X d zm_220 47 [] [] h Q := by
  refine zz_J.ret rfl rfl rfl ?_
  exact k hR
theorem cb_220_48 {X : Nat → Option zz_C} {h : zz_H} {t : cS} {s : mS} {d : Nat} {Q : zz_O → zz_H → Prop} {x0 : Nat} {x1 : Int32} {x3 : Int64} {x5 : Int32} {x6 : Int32} (hR : kR h t s) (k : ∀ {h : zz_H}, kR h t s → zz_J zp_P zt_tf zt_fd X d zm_128 0 [(0, .ref 42), (1, .long x3)] [] h (zz_after 2 Q (fun v h' => zz_J zp_P zt_tf zt_fd X (d + 1) zm_220 53 [(0, .ref x0), (1, .int x1), (2, .ref 42), (3, .long x3), (5, .int x5), (6, .int x6)] (v.toList ++ []) h' Q))) : zz_J zp_P zt_tf zt_fd X (d + 1) zm_220 48 [(0, .ref x0), (1, .int x1), (2, .ref 42), (3, .long x3), (5, .int x5), (6, .int x6)] [] h Q := by
  refine zz_J.n 49 rfl rfl rfl ?_
  refine zz_J.n 50 rfl rfl rfl ?_
  refine zz_J.cv 53 (as := []) rfl rfl (hR.clO ko_42 (by decide) (by decide)) (by decide) (Nat.le_of_ble_eq_true rfl) (Nat.le_of_ble_eq_true rfl) rfl (Nat.le_of_ble_eq_true rfl) rfl ?_
  refine zz_J.mono (k hR) ?_
  intro o h' hE
  cases o with
  | inl v => exact zz_J.weak hE rfl ⟨rfl, rfl, rfl, rfl, rfl, rfl, trivial⟩
  | inr q => exact hE
theorem cb_220_53 {X : Nat → Option zz_C} {h : zz_H} {t : cS} {s : mS} {d : Nat} {Q : zz_O → zz_H → Prop} {x0 : Nat} {x1 : Int32} {x3 : Int64} {x5 : Int32} {x6 : Int32} {y0 : Int32} (hR : kR h t s) (e0 : kH t x0 = true) (k : ∀ {h : zz_H}, kR h t s → zz_J zp_P zt_tf zt_fd X d zm_25 0 [(0, .ref x0), (1, .int x1), (2, .int y0)] [] h (zz_after 7 Q (fun v h' => zz_J zp_P zt_tf zt_fd X (d + 1) zm_220 62 [(0, .ref x0), (1, .int x1), (2, .ref 42), (3, .long x3), (5, .int x5), (6, .int x6), (7, .int y0)] (v.toList ++ []) h' Q))) : zz_J zp_P zt_tf zt_fd X (d + 1) zm_220 53 [(0, .ref x0), (1, .int x1), (2, .ref 42), (3, .long x3), (5, .int x5), (6, .int x6)] [.int y0] h Q := by
  refine zz_J.n 55 rfl rfl rfl ?_
  refine zz_J.n 56 rfl rfl rfl ?_
  refine zz_J.n 57 rfl rfl rfl ?_
  refine zz_J.n 59 rfl rfl rfl ?_
  refine zz_J.cv 62 (as := []) rfl rfl (hR.clS e0 (by decide)) (by decide) (Nat.le_of_ble_eq_true rfl) (Nat.le_of_ble_eq_true rfl) rfl (Nat.le_of_ble_eq_true rfl) rfl ?_
  refine zz_J.mono (k hR) ?_
  intro o h' hE
  cases o with
  | inl v => exact zz_J.weak hE rfl ⟨rfl, rfl, rfl, rfl, rfl, rfl, rfl, trivial⟩
  | inr q => exact hE
theorem cb_220_62 {X : Nat → Option zz_C} {h : zz_H} {t : cS} {s : mS} {d : Nat} {Q : zz_O → zz_H → Prop} {x0 : Nat} {x1 : Int32} {x3 : Int64} {x5 : Int32} {x6 : Int32} {x7 : Int32} (hR : kR h t s) (k : ∀ {h : zz_H}, kR h t s → zz_J zp_P zt_tf zt_fd X d zm_220 65 [(0, .ref x0), (1, .int x1), (2, .ref 42), (3, .long x3), (5, .int x5), (6, .int x6), (7, .int x7), (8, .int 0)] [] h Q) : zz_J zp_P zt_tf zt_fd X d zm_220 62 [(0, .ref x0), (1, .int x1), (2, .ref 42), (3, .long x3), (5, .int x5), (6, .int x6), (7, .int x7)] [] h Q := by
  refine zz_J.c 63 (.int 0) rfl rfl rfl rfl ?_
  refine zz_J.n 65 rfl rfl rfl ?_
  exact zz_J.weak (k hR) rfl ⟨rfl, rfl, rfl, rfl, rfl, rfl, rfl, rfl, trivial⟩
theorem cb_220_65 {X : Nat → Option zz_C} {h : zz_H} {t : cS} {s : mS} {d : Nat} {Q : zz_O → zz_H → Prop} {x0 : Nat} {x1 : Int32} {x3 : Int64} {x5 : Int32} {x6 : Int32} {x7 : Int32} {x8 : Int32} (hR : kR h t s) (k1 : x7 ≤ x8 → (∀ {h : zz_H}, kR h t s → zz_J zp_P zt_tf zt_fd X d zm_220 117 [] [] h Q)) (k2 : ¬ x7 ≤ x8 → (∀ {h : zz_H}, kR h t s → zz_J zp_P zt_tf zt_fd X d zm_220 72 [(0, .ref x0), (1, .int x1), (2, .ref 42), (3, .long x3), (5, .int x5), (6, .int x6), (7, .int x7), (8, .int x8)] [] h Q)) : zz_J zp_P zt_tf zt_fd X d zm_220 65 [(0, .ref x0), (1, .int x1), (2, .ref 42), (3, .long x3), (5, .int x5), (6, .int x6), (7, .int x7), (8, .int x8)] [] h Q := by
  refine zz_J.n 67 rfl rfl rfl ?_
  refine zz_J.n 69 rfl rfl rfl ?_
  refine zz_J.b2 117 72 (A := x7 ≤ x8) rfl rfl (by decide) rfl rfl (fun c => ?_) (fun c => ?_)
  · exact zz_J.weak (k1 c hR) rfl trivial
  · exact zz_J.weak (k2 c hR) rfl ⟨rfl, rfl, rfl, rfl, rfl, rfl, rfl, rfl, trivial⟩
theorem cb_220_72 {X : Nat → Option zz_C} {h : zz_H} {t : cS} {s : mS} {d : Nat} {Q : zz_O → zz_H → Prop} {x0 : Nat} {x1 : Int32} {x3 : Int64} {x5 : Int32} {x6 : Int32} {x7 : Int32} {x8 : Int32} (hR : kR h t s) (k1 : ¬ x6 = 2 → (∀ {h : zz_H}, kR h t s → zz_J zp_P zt_tf zt_fd X d zm_220 94 [(0, .ref x0), (1, .int x1), (2, .ref 42), (3, .long x3), (5, .int x5), (6, .int x6), (7, .int x7), (8, .int x8)] [] h Q)) (k2 : ¬ ¬ x6 = 2 → (∀ {h : zz_H}, kR h t s → zz_J zp_P zt_tf zt_fd X d zm_220 78 [(0, .ref x0), (1, .int x1), (2, .ref 42), (3, .long x3), (5, .int x5), (6, .int x6), (7, .int x7), (8, .int x8)] [] h Q)) : zz_J zp_P zt_tf zt_fd X d zm_220 72 [(0, .ref x0), (1, .int x1), (2, .ref 42), (3, .long x3), (5, .int x5), (6, .int x6), (7, .int x7), (8, .int x8)] [] h Q := by
  refine zz_J.n 74 rfl rfl rfl ?_
  refine zz_J.c 75 (.int 2) rfl rfl rfl rfl ?_
  refine zz_J.b2 94 78 (A := ¬ x6 = 2) rfl (zz_cond_ne _ _) (by decide) rfl rfl (fun c => ?_) (fun c => ?_)
  · exact zz_J.weak (k1 c hR) rfl ⟨rfl, rfl, rfl, rfl, rfl, rfl, rfl, rfl, trivial⟩
  · exact zz_J.weak (k2 c hR) rfl ⟨rfl, rfl, rfl, rfl, rfl, rfl, rfl, rfl, trivial⟩
theorem cb_220_78 {X : Nat → Option zz_C} {h : zz_H} {t : cS} {s : mS} {d : Nat} {Q : zz_O → zz_H → Prop} {x0 : Nat} {x1 : Int32} {x3 : Int64} {x5 : Int32} {x6 : Int32} {x7 : Int32} {x8 : Int32} (hR : kR h t s) (k : ∀ {h : zz_H}, kR h t s → zz_J zp_P zt_tf zt_fd X d zm_129 0 [(0, .ref 42), (1, .long x3), (3, .int x8)] [] h (zz_after 2 Q (fun v h' => zz_J zp_P zt_tf zt_fd X (d + 1) zm_220 88 [(0, .ref x0), (1, .int x1), (2, .ref 42), (3, .long x3), (5, .int x5), (6, .int x6), (7, .int x7), (8, .int x8)] (v.toList ++ [.ref 42, .int x1, .ref x0]) h' Q))) : zz_J zp_P zt_tf zt_fd X (d + 1) zm_220 78 [(0, .ref x0), (1, .int x1), (2, .ref 42), (3, .long x3), (5, .int x5), (6, .int x6), (7, .int x7), (8, .int x8)] [] h Q := by
  refine zz_J.n 79 rfl rfl rfl ?_
  refine zz_J.n 80 rfl rfl rfl ?_
  refine zz_J.n 81 rfl rfl rfl ?_
  refine zz_J.n 82 rfl rfl rfl ?_
  refine zz_J.n 83 rfl rfl rfl ?_
  refine zz_J.n 85 rfl rfl rfl ?_
  refine zz_J.cv 88 (as := [.ref 42, .int x1, .ref x0]) rfl rfl (hR.clO ko_42 (by decide) (by decide)) (by decide) (Nat.le_of_ble_eq_true rfl) (Nat.le_of_ble_eq_true rfl) rfl (Nat.le_of_ble_eq_true rfl) rfl ?_
  refine zz_J.mono (k hR) ?_
  intro o h' hE
  cases o with
  | inl v => exact zz_J.weak hE rfl ⟨rfl, rfl, rfl, rfl, rfl, rfl, rfl, rfl, trivial⟩
  | inr q => exact hE
theorem cb_220_88 {X : Nat → Option zz_C} {h : zz_H} {t : cS} {s : mS} {d : Nat} {Q : zz_O → zz_H → Prop} {x0 : Nat} {x1 : Int32} {x3 : Int64} {x5 : Int32} {x6 : Int32} {x7 : Int32} {x8 : Int32} {y0 : Nat} {y1 : Int32} {y3 : Int64} (hR : kR h t s) (e0 : kH t y0 = true) (k : ∀ {h : zz_H}, kR h t s → zz_J zp_P zt_tf zt_fd X d zm_221 0 [(0, .ref y0), (1, .int y1), (2, .ref 42), (3, .long y3)] [] h (zz_after 7 Q (fun v h' => zz_J zp_P zt_tf zt_fd X (d + 1) zm_220 91 [(0, .ref x0), (1, .int x1), (2, .ref 42), (3, .long x3), (5, .int x5), (6, .int x6), (7, .int x7), (8, .int x8)] (v.toList ++ []) h' Q))) : zz_J zp_P zt_tf zt_fd X (d + 1) zm_220 88 [(0, .ref x0), (1, .int x1), (2, .ref 42), (3, .long x3), (5, .int x5), (6, .int x6), (7, .int x7), (8, .int x8)] [.long y3, .ref 42, .int y1, .ref y0] h Q := by
  refine zz_J.cv 91 (as := []) rfl rfl (hR.clS e0 (by decide)) (by decide) (Nat.le_of_ble_eq_true rfl) (Nat.le_of_ble_eq_true rfl) rfl (Nat.le_of_ble_eq_true rfl) rfl ?_
  refine zz_J.mono (k hR) ?_
  intro o h' hE
  cases o with
  | inl v => exact zz_J.weak hE rfl ⟨rfl, rfl, rfl, rfl, rfl, rfl, rfl, rfl, trivial⟩
  | inr q => exact hE
theorem cb_220_91 {X : Nat → Option zz_C} {h : zz_H} {t : cS} {s : mS} {d : Nat} {Q : zz_O → zz_H → Prop} {x0 : Nat} {x1 : Int32} {x3 : Int64} {x5 : Int32} {x6 : Int32} {x7 : Int32} {x8 : Int32} (hR : kR h t s) (k : ∀ {h : zz_H}, kR h t s → zz_J zp_P zt_tf zt_fd X d zm_220 111 [(0, .ref x0), (1, .int x1), (2, .ref 42), (3, .long x3), (5, .int x5), (6, .int x6), (7, .int x7), (8, .int x8)] [] h Q) : zz_J zp_P zt_tf zt_fd X d zm_220 91 [(0, .ref x0), (1, .int x1), (2, .ref 42), (3, .long x3), (5, .int x5), (6, .int x6), (7, .int x7), (8, .int x8)] [] h Q := by
  refine zz_J.n 111 rfl rfl rfl ?_
  exact zz_J.weak (k hR) rfl ⟨rfl, rfl, rfl, rfl, rfl, rfl, rfl, rfl, trivial⟩
theorem cb_220_94 {X : Nat → Option zz_C} {h : zz_H} {t : cS} {s : mS} {d : Nat} {Q : zz_O → zz_H → Prop} {x0 : Nat} {x1 : Int32} {x3 : Int64} {x5 : Int32} {x6 : Int32} {x7 : Int32} {x8 : Int32} (hR : kR h t s) (k : ∀ {h : zz_H}, kR h t s → zz_J zp_P zt_tf zt_fd X d zm_129 0 [(0, .ref 42), (1, .long x3), (3, .int x8)] [] h (zz_after 2 Q (fun v h' => zz_J zp_P zt_tf zt_fd X (d + 1) zm_220 104 [(0, .ref x0), (1, .int x1), (2, .ref 42), (3, .long x3), (5, .int x5), (6, .int x6), (7, .int x7), (8, .int x8)] (v.toList ++ [.ref 42, .int x1, .ref x0]) h' Q))) : zz_J zp_P zt_tf zt_fd X (d + 1) zm_220 94 [(0, .ref x0), (1, .int x1), (2, .ref 42), (3, .long x3), (5, .int x5), (6, .int x6), (7, .int x7), (8, .int x8)] [] h Q := by
  refine zz_J.n 95 rfl rfl rfl ?_
  refine zz_J.n 96 rfl rfl rfl ?_
  refine zz_J.n 97 rfl rfl rfl ?_
  refine zz_J.n 98 rfl rfl rfl ?_
  refine zz_J.n 99 rfl rfl rfl ?_
  refine zz_J.n 101 rfl rfl rfl ?_
  refine zz_J.cv 104 (as := [.ref 42, .int x1, .ref x0]) rfl rfl (hR.clO ko_42 (by decide) (by decide)) (by decide) (Nat.le_of_ble_eq_true rfl) (Nat.le_of_ble_eq_true rfl) rfl (Nat.le_of_ble_eq_true rfl) rfl ?_
  refine zz_J.mono (k hR) ?_
  intro o h' hE
  cases o with
  | inl v => exact zz_J.weak hE rfl ⟨rfl, rfl, rfl, rfl, rfl, rfl, rfl, rfl, trivial⟩
  | inr q => exact hE
theorem cb_220_104 {X : Nat → Option zz_C} {h : zz_H} {t : cS} {s : mS} {d : Nat} {Q : zz_O → zz_H → Prop} {x0 : Nat} {x1 : Int32} {x3 : Int64} {x5 : Int32} {x6 : Int32} {x7 : Int32} {x8 : Int32} {y0 : Nat} {y1 : Int32} {y3 : Int64} (hR : kR h t s) (e0 : kH t y0 = true) (k : ∀ {h : zz_H}, kR h t s → zz_J zp_P zt_tf zt_fd X d zm_220 0 [(0, .ref y0), (1, .int y1), (2, .ref 42), (3, .long y3), (5, .int (x5 + 1))] [] h (zz_after 7 Q (fun v h' => zz_J zp_P zt_tf zt_fd X (d + 1) zm_220 111 [(0, .ref x0), (1, .int x1), (2, .ref 42), (3, .long x3), (5, .int x5), (6, .int x6), (7, .int x7), (8, .int x8)] (v.toList ++ []) h' Q))) : zz_J zp_P zt_tf zt_fd X (d + 1) zm_220 104 [(0, .ref x0), (1, .int x1), (2, .ref 42), (3, .long x3), (5, .int x5), (6, .int x6), (7, .int x7), (8, .int x8)] [.long y3, .ref 42, .int y1, .ref y0] h Q := by
  refine zz_J.n 106 rfl rfl rfl ?_
  refine zz_J.c 107 (.int 1) rfl rfl rfl rfl ?_
  refine zz_J.n 108 rfl rfl rfl ?_
  refine zz_J.cv 111 (as := []) rfl rfl (hR.clS e0 (by decide)) (by decide) (Nat.le_of_ble_eq_true rfl) (Nat.le_of_ble_eq_true rfl) rfl (Nat.le_of_ble_eq_true rfl) rfl ?_
  refine zz_J.mono (k hR) ?_
  intro o h' hE
  cases o with
  | inl v => exact zz_J.weak hE rfl ⟨rfl, rfl, rfl, rfl, rfl, rfl, rfl, rfl, trivial⟩
  | inr q => exact hE
theorem cb_220_111 {X : Nat → Option zz_C} {h : zz_H} {t : cS} {s : mS} {d : Nat} {Q : zz_O → zz_H → Prop} {x0 : Nat} {x1 : Int32} {x3 : Int64} {x5 : Int32} {x6 : Int32} {x7 : Int32} {x8 : Int32} (hR : kR h t s) (k : ∀ {h : zz_H}, kR h t s → zz_J zp_P zt_tf zt_fd X d zm_220 65 [(0, .ref x0), (1, .int x1), (2, .ref 42), (3, .long x3), (5, .int x5), (6, .int x6), (7, .int x7), (8, .int (x8 + 1))] [] h Q) : zz_J zp_P zt_tf zt_fd X d zm_220 111 [(0, .ref x0), (1, .int x1), (2, .ref 42), (3, .long x3), (5, .int x5), (6, .int x6), (7, .int x7), (8, .int x8)] [] h Q := by
  refine zz_J.n 114 rfl rfl rfl ?_
  refine zz_J.n 65 rfl rfl rfl ?_
  exact zz_J.weak (k hR) rfl ⟨rfl, rfl, rfl, rfl, rfl, rfl, rfl, rfl, trivial⟩
theorem cb_220_117 {X : Nat → Option zz_C} {h : zz_H} {t : cS} {s : mS} {d : Nat} {Q : zz_O → zz_H → Prop}  (hR : kR h t s) (k : ∀ {h : zz_H}, kR h t s → Q (.inl none) h) : zz_J zp_P zt_tf zt_fd X d zm_220 117 [] [] h Q := by
  refine zz_J.ret rfl rfl rfl ?_
  exact k hR
def cf_220_33 (N : Nat) (X : Nat → Option zz_C) (rk : Nat → List Value → cS → kO)  (t : cS) : kO := some (t, .inl none)
theorem cr_220_33 {X : Nat → Option zz_C} {s : mS} {N : Nat} {rk : Nat → List Value → cS → kO} {D : Nat} (hrk : cK5 X s D rk) (hB : 11 ≤ D) {d : Nat} (hd : D + 1 ≤ d) {Q : zz_O → zz_H → Prop}  {h : zz_H} {t t' : cS} {o : kY} (hR : kR h t s) (hf : cf_220_33 N X rk  t = some (t', o)) (k : (∀ h', kR h' t' s → kE o Q h')) : zz_J zp_P zt_tf zt_fd X d zm_220 33 [] [] h Q := by
  unfold cf_220_33 at hf
  cases hf
  exact cb_220_33 hR  (fun {h} hR => k h hR)
def cf_220_30 (N : Nat) (X : Nat → Option zz_C) (rk : Nat → List Value → cS → kO) (y0 : Nat) (y1 : Int32) (y2 : Int32) (t : cS) : kO := if kH t y0 = true then (ko_call 7 (cf_25 N X y0 y1 y2 t) (fun g1 v1 => co_v v1 (cf_220_33 N X rk  g1))) else none
theorem cr_220_30 {X : Nat → Option zz_C} {s : mS} {N : Nat} {rk : Nat → List Value → cS → kO} {D : Nat} (hrk : cK5 X s D rk) (hB : 11 ≤ D) {d : Nat} (hd : D + 1 ≤ d) {Q : zz_O → zz_H → Prop} {y0 : Nat} {y1 : Int32} {y2 : Int32} {h : zz_H} {t t' : cS} {o : kY} (hR : kR h t s) (hf : cf_220_30 N X rk y0 y1 y2 t = some (t', o)) (k : (∀ h', kR h' t' s → kE o Q h')) : zz_J zp_P zt_tf zt_fd X d zm_220 30 [] [.int y2, .int y1, .ref y0] h Q := by
  unfold cf_220_30 at hf
  obtain ⟨e0, hf⟩ := ko_if hf
  obtain ⟨d', rfl⟩ : ∃ d', d = d' + 1 := ⟨d - 1, by omega⟩
  refine cb_220_30 hR e0 (fun {h} hR => ?_)
  rcases ko_call_ok hf with ⟨g1, v1, er, hf⟩ | ⟨g1, er, hq⟩
  · obtain ⟨hv, hf2⟩ := co_v_ok hf
    clear hf
    have hf := hf2
    clear hf2
    subst hv
    refine cr_25 (by omega) hR er (fun h hR => ?_)
    exact cr_220_33 hrk hB hd hR hf k
  · refine cr_25 (by omega) hR er (fun h hR => ?_)
    exact ko_thrown hq hR k
def cf_220_24 (N : Nat) (X : Nat → Option zz_C) (rk : Nat → List Value → cS → kO) (x0 : Nat) (x1 : Int32) (x3 : Int64) (t : cS) : kO := ko_call 1000 (cf_256 N X x3 t) (fun g1 v1 => co_i v1 (fun y => cf_220_30 N X rk x0 x1 y g1))
theorem cr_220_24 {X : Nat → Option zz_C} {s : mS} {N : Nat} {rk : Nat → List Value → cS → kO} {D : Nat} (hrk : cK5 X s D rk) (hB : 11 ≤ D) {d : Nat} (hd : D + 1 ≤ d) {Q : zz_O → zz_H → Prop} {x0 : Nat} {x1 : Int32} {x3 : Int64} {h : zz_H} {t t' : cS} {o : kY} (hR : kR h t s) (hf : cf_220_24 N X rk x0 x1 x3 t = some (t', o)) (k : (∀ h', kR h' t' s → kE o Q h')) : zz_J zp_P zt_tf zt_fd X d zm_220 24 [(0, .ref x0), (1, .int x1), (3, .long x3)] [] h Q := by
  unfold cf_220_24 at hf
  obtain ⟨d', rfl⟩ : ∃ d', d = d' + 1 := ⟨d - 1, by omega⟩
  refine cb_220_24 hR  (fun {h} hR => ?_)
  rcases ko_call_ok hf with ⟨g1, v1, er, hf⟩ | ⟨g1, er, hq⟩
  · obtain ⟨y, hv, hf2⟩ := co_i_ok hf
    clear hf
    have hf := hf2
    clear hf2
    subst hv
    refine cr_256 (by omega) hR er (fun h hR => ?_)
    exact cr_220_30 hrk hB hd hR hf k
  · refine cr_256 (by omega) hR er (fun h hR => ?_)
    exact ko_thrown hq hR k
def cf_220_117 (N : Nat) (X : Nat → Option zz_C) (rk : Nat → List Value → cS → kO)  (t : cS) : kO := some (t, .inl none)
theorem cr_220_117 {X : Nat → Option zz_C} {s : mS} {N : Nat} {rk : Nat → List Value → cS → kO} {D : Nat} (hrk : cK5 X s D rk) (hB : 11 ≤ D) {d : Nat} (hd : D + 1 ≤ d) {Q : zz_O → zz_H → Prop}  {h : zz_H} {t t' : cS} {o : kY} (hR : kR h t s) (hf : cf_220_117 N X rk  t = some (t', o)) (k : (∀ h', kR h' t' s → kE o Q h')) : zz_J zp_P zt_tf zt_fd X d zm_220 117 [] [] h Q := by
  unfold cf_220_117 at hf
  cases hf
  exact cb_220_117 hR  (fun {h} hR => k h hR)
def cf_220_111 (N : Nat) (X : Nat → Option zz_C) (rk : Nat → List Value → cS → kO) (rc : Nat → Nat → Int32 → Int64 → Int32 → Int32 → Int32 → Int32 → cS → kO) (x0 : Nat) (x1 : Int32) (x3 : Int64) (x5 : Int32) (x6 : Int32) (x7 : Int32) (x8 : Int32) (t : cS) : kO := rc 0 x0 x1 x3 x5 x6 x7 (x8 + 1) t
theorem cr_220_111 {X : Nat → Option zz_C} {s : mS} {N : Nat} {rk : Nat → List Value → cS → kO} {D : Nat} (hrk : cK5 X s D rk) (hB : 11 ≤ D) {d : Nat} (hd : D + 1 ≤ d) {rc : Nat → Nat → Int32 → Int64 → Int32 → Int32 → Int32 → Int32 → cS → kO} (hrc0 : ∀ {Q : zz_O → zz_H → Prop} {x0 : Nat} {x1 : Int32} {x3 : Int64} {x5 : Int32} {x6 : Int32} {x7 : Int32} {x8 : Int32} {h : zz_H} {t t' : cS} {o : kY}, kR h t s → rc 0 x0 x1 x3 x5 x6 x7 x8 t = some (t', o) → (∀ h', kR h' t' s → kE o Q h') → zz_J zp_P zt_tf zt_fd X d zm_220 65 [(0, .ref x0), (1, .int x1), (2, .ref 42), (3, .long x3), (5, .int x5), (6, .int x6), (7, .int x7), (8, .int x8)] [] h Q) {Q : zz_O → zz_H → Prop} {x0 : Nat} {x1 : Int32} {x3 : Int64} {x5 : Int32} {x6 : Int32} {x7 : Int32} {x8 : Int32} {h : zz_H} {t t' : cS} {o : kY} (hR : kR h t s) (hf : cf_220_111 N X rk rc x0 x1 x3 x5 x6 x7 x8 t = some (t', o)) (k : (∀ h', kR h' t' s → kE o Q h')) : zz_J zp_P zt_tf zt_fd X d zm_220 111 [(0, .ref x0), (1, .int x1), (2, .ref 42), (3, .long x3), (5, .int x5), (6, .int x6), (7, .int x7), (8, .int x8)] [] h Q := by
  unfold cf_220_111 at hf
  exact cb_220_111 hR  (fun hR => hrc0 hR hf k)
def cf_220_91 (N : Nat) (X : Nat → Option zz_C) (rk : Nat → List Value → cS → kO) (rc : Nat → Nat → Int32 → Int64 → Int32 → Int32 → Int32 → Int32 → cS → kO) (x0 : Nat) (x1 : Int32) (x3 : Int64) (x5 : Int32) (x6 : Int32) (x7 : Int32) (x8 : Int32) (t : cS) : kO := cf_220_111 N X rk rc x0 x1 x3 x5 x6 x7 x8 t
theorem cr_220_91 {X : Nat → Option zz_C} {s : mS} {N : Nat} {rk : Nat → List Value → cS → kO} {D : Nat} (hrk : cK5 X s D rk) (hB : 11 ≤ D) {d : Nat} (hd : D + 1 ≤ d) {rc : Nat → Nat → Int32 → Int64 → Int32 → Int32 → Int32 → Int32 → cS → kO} (hrc0 : ∀ {Q : zz_O → zz_H → Prop} {x0 : Nat} {x1 : Int32} {x3 : Int64} {x5 : Int32} {x6 : Int32} {x7 : Int32} {x8 : Int32} {h : zz_H} {t t' : cS} {o : kY}, kR h t s → rc 0 x0 x1 x3 x5 x6 x7 x8 t = some (t', o) → (∀ h', kR h' t' s → kE o Q h') → zz_J zp_P zt_tf zt_fd X d zm_220 65 [(0, .ref x0), (1, .int x1), (2, .ref 42), (3, .long x3), (5, .int x5), (6, .int x6), (7, .int x7), (8, .int x8)] [] h Q) {Q : zz_O → zz_H → Prop} {x0 : Nat} {x1 : Int32} {x3 : Int64} {x5 : Int32} {x6 : Int32} {x7 : Int32} {x8 : Int32} {h : zz_H} {t t' : cS} {o : kY} (hR : kR h t s) (hf : cf_220_91 N X rk rc x0 x1 x3 x5 x6 x7 x8 t = some (t', o)) (k : (∀ h', kR h' t' s → kE o Q h')) : zz_J zp_P zt_tf zt_fd X d zm_220 91 [(0, .ref x0), (1, .int x1), (2, .ref 42), (3, .long x3), (5, .int x5), (6, .int x6), (7, .int x7), (8, .int x8)] [] h Q := by
  unfold cf_220_91 at hf
  exact cb_220_91 hR  (fun hR => cr_220_111 hrk hB hd hrc0 hR hf k)
def cf_220_88 (N : Nat) (X : Nat → Option zz_C) (rk : Nat → List Value → cS → kO) (rc : Nat → Nat → Int32 → Int64 → Int32 → Int32 → Int32 → Int32 → cS → kO) (x0 : Nat) (x1 : Int32) (x3 : Int64) (x5 : Int32) (x6 : Int32) (x7 : Int32) (x8 : Int32) (y0 : Nat) (y1 : Int32) (y3 : Int64) (t : cS) : kO := if kH t y0 = true then (ko_call 7 (cf_221 N X y0 y1 y3 t) (fun g1 v1 => co_v v1 (cf_220_91 N X rk rc x0 x1 x3 x5 x6 x7 x8 g1))) else none
theorem cr_220_88 {X : Nat → Option zz_C} {s : mS} {N : Nat} {rk : Nat → List Value → cS → kO} {D : Nat} (hrk : cK5 X s D rk) (hB : 11 ≤ D) {d : Nat} (hd : D + 1 ≤ d) {rc : Nat → Nat → Int32 → Int64 → Int32 → Int32 → Int32 → Int32 → cS → kO} (hrc0 : ∀ {Q : zz_O → zz_H → Prop} {x0 : Nat} {x1 : Int32} {x3 : Int64} {x5 : Int32} {x6 : Int32} {x7 : Int32} {x8 : Int32} {h : zz_H} {t t' : cS} {o : kY}, kR h t s → rc 0 x0 x1 x3 x5 x6 x7 x8 t = some (t', o) → (∀ h', kR h' t' s → kE o Q h') → zz_J zp_P zt_tf zt_fd X d zm_220 65 [(0, .ref x0), (1, .int x1), (2, .ref 42), (3, .long x3), (5, .int x5), (6, .int x6), (7, .int x7), (8, .int x8)] [] h Q) {Q : zz_O → zz_H → Prop} {x0 : Nat} {x1 : Int32} {x3 : Int64} {x5 : Int32} {x6 : Int32} {x7 : Int32} {x8 : Int32} {y0 : Nat} {y1 : Int32} {y3 : Int64} {h : zz_H} {t t' : cS} {o : kY} (hR : kR h t s) (hf : cf_220_88 N X rk rc x0 x1 x3 x5 x6 x7 x8 y0 y1 y3 t = some (t', o)) (k : (∀ h', kR h' t' s → kE o Q h')) : zz_J zp_P zt_tf zt_fd X d zm_220 88 [(0, .ref x0), (1, .int x1), (2, .ref 42), (3, .long x3), (5, .int x5), (6, .int x6), (7, .int x7), (8, .int x8)] [.long y3, .ref 42, .int y1, .ref y0] h Q := by
  unfold cf_220_88 at hf
  obtain ⟨e0, hf⟩ := ko_if hf
  obtain ⟨d', rfl⟩ : ∃ d', d = d' + 1 := ⟨d - 1, by omega⟩
  refine cb_220_88 hR e0 (fun {h} hR => ?_)
  rcases ko_call_ok hf with ⟨g1, v1, er, hf⟩ | ⟨g1, er, hq⟩
  · obtain ⟨hv, hf2⟩ := co_v_ok hf
    clear hf
    have hf := hf2
    clear hf2
    subst hv
    refine cr_221 (by omega) hR er (fun h hR => ?_)
    exact cr_220_91 hrk hB hd hrc0 hR hf k
  · refine cr_221 (by omega) hR er (fun h hR => ?_)
    exact ko_thrown hq hR k
def cf_220_78 (N : Nat) (X : Nat → Option zz_C) (rk : Nat → List Value → cS → kO) (rc : Nat → Nat → Int32 → Int64 → Int32 → Int32 → Int32 → Int32 → cS → kO) (x0 : Nat) (x1 : Int32) (x3 : Int64) (x5 : Int32) (x6 : Int32) (x7 : Int32) (x8 : Int32) (t : cS) : kO := ko_call 2 (cf_129 N X x3 x8 t) (fun g1 v1 => co_l v1 (fun y => cf_220_88 N X rk rc x0 x1 x3 x5 x6 x7 x8 x0 x1 y g1))
theorem cr_220_78 {X : Nat → Option zz_C} {s : mS} {N : Nat} {rk : Nat → List Value → cS → kO} {D : Nat} (hrk : cK5 X s D rk) (hB : 11 ≤ D) {d : Nat} (hd : D + 1 ≤ d) {rc : Nat → Nat → Int32 → Int64 → Int32 → Int32 → Int32 → Int32 → cS → kO} (hrc0 : ∀ {Q : zz_O → zz_H → Prop} {x0 : Nat} {x1 : Int32} {x3 : Int64} {x5 : Int32} {x6 : Int32} {x7 : Int32} {x8 : Int32} {h : zz_H} {t t' : cS} {o : kY}, kR h t s → rc 0 x0 x1 x3 x5 x6 x7 x8 t = some (t', o) → (∀ h', kR h' t' s → kE o Q h') → zz_J zp_P zt_tf zt_fd X d zm_220 65 [(0, .ref x0), (1, .int x1), (2, .ref 42), (3, .long x3), (5, .int x5), (6, .int x6), (7, .int x7), (8, .int x8)] [] h Q) {Q : zz_O → zz_H → Prop} {x0 : Nat} {x1 : Int32} {x3 : Int64} {x5 : Int32} {x6 : Int32} {x7 : Int32} {x8 : Int32} {h : zz_H} {t t' : cS} {o : kY} (hR : kR h t s) (hf : cf_220_78 N X rk rc x0 x1 x3 x5 x6 x7 x8 t = some (t', o)) (k : (∀ h', kR h' t' s → kE o Q h')) : zz_J zp_P zt_tf zt_fd X d zm_220 78 [(0, .ref x0), (1, .int x1), (2, .ref 42), (3, .long x3), (5, .int x5), (6, .int x6), (7, .int x7), (8, .int x8)] [] h Q := by
  unfold cf_220_78 at hf
  obtain ⟨d', rfl⟩ : ∃ d', d = d' + 1 := ⟨d - 1, by omega⟩
  refine cb_220_78 hR  (fun {h} hR => ?_)
  rcases ko_call_ok hf with ⟨g1, v1, er, hf⟩ | ⟨g1, er, hq⟩
  · obtain ⟨y, hv, hf2⟩ := co_l_ok hf
    clear hf
    have hf := hf2
    clear hf2
    subst hv
    refine cr_129 (by omega) hR er (fun h hR => ?_)
    exact cr_220_88 hrk hB hd hrc0 hR hf k
  · refine cr_129 (by omega) hR er (fun h hR => ?_)
    exact ko_thrown hq hR k
def cf_220_104 (N : Nat) (X : Nat → Option zz_C) (rk : Nat → List Value → cS → kO) (rc : Nat → Nat → Int32 → Int64 → Int32 → Int32 → Int32 → Int32 → cS → kO) (x0 : Nat) (x1 : Int32) (x3 : Int64) (x5 : Int32) (x6 : Int32) (x7 : Int32) (x8 : Int32) (y0 : Nat) (y1 : Int32) (y3 : Int64) (t : cS) : kO := if kH t y0 = true then (ko_call 7 (rk 220 [.ref y0, .int y1, .long y3, .int (x5 + 1)] t) (fun g1 v1 => co_v v1 (cf_220_111 N X rk rc x0 x1 x3 x5 x6 x7 x8 g1))) else none
theorem cr_220_104 {X : Nat → Option zz_C} {s : mS} {N : Nat} {rk : Nat → List Value → cS → kO} {D : Nat} (hrk : cK5 X s D rk) (hB : 11 ≤ D) {d : Nat} (hd : D + 1 ≤ d) {rc : Nat → Nat → Int32 → Int64 → Int32 → Int32 → Int32 → Int32 → cS → kO} (hrc0 : ∀ {Q : zz_O → zz_H → Prop} {x0 : Nat} {x1 : Int32} {x3 : Int64} {x5 : Int32} {x6 : Int32} {x7 : Int32} {x8 : Int32} {h : zz_H} {t t' : cS} {o : kY}, kR h t s → rc 0 x0 x1 x3 x5 x6 x7 x8 t = some (t', o) → (∀ h', kR h' t' s → kE o Q h') → zz_J zp_P zt_tf zt_fd X d zm_220 65 [(0, .ref x0), (1, .int x1), (2, .ref 42), (3, .long x3), (5, .int x5), (6, .int x6), (7, .int x7), (8, .int x8)] [] h Q) {Q : zz_O → zz_H → Prop} {x0 : Nat} {x1 : Int32} {x3 : Int64} {x5 : Int32} {x6 : Int32} {x7 : Int32} {x8 : Int32} {y0 : Nat} {y1 : Int32} {y3 : Int64} {h : zz_H} {t t' : cS} {o : kY} (hR : kR h t s) (hf : cf_220_104 N X rk rc x0 x1 x3 x5 x6 x7 x8 y0 y1 y3 t = some (t', o)) (k : (∀ h', kR h' t' s → kE o Q h')) : zz_J zp_P zt_tf zt_fd X d zm_220 104 [(0, .ref x0), (1, .int x1), (2, .ref 42), (3, .long x3), (5, .int x5), (6, .int x6), (7, .int x7), (8, .int x8)] [.long y3, .ref 42, .int y1, .ref y0] h Q := by
  unfold cf_220_104 at hf
  obtain ⟨e0, hf⟩ := ko_if hf
  obtain ⟨d', rfl⟩ : ∃ d', d = d' + 1 := ⟨d - 1, by omega⟩
  refine cb_220_104 hR e0 (fun {h} hR => ?_)
  rcases ko_call_ok hf with ⟨g1, v1, er, hf⟩ | ⟨g1, er, hq⟩
  · obtain ⟨hv, hf2⟩ := co_v_ok hf
    clear hf
    have hf := hf2
    clear hf2
    subst hv
    refine hrk (by omega) hR er (fun h hR => ?_)
    exact cr_220_111 hrk hB hd hrc0 hR hf k
  · refine hrk (by omega) hR er (fun h hR => ?_)
    exact ko_thrown hq hR k
def cf_220_94 (N : Nat) (X : Nat → Option zz_C) (rk : Nat → List Value → cS → kO) (rc : Nat → Nat → Int32 → Int64 → Int32 → Int32 → Int32 → Int32 → cS → kO) (x0 : Nat) (x1 : Int32) (x3 : Int64) (x5 : Int32) (x6 : Int32) (x7 : Int32) (x8 : Int32) (t : cS) : kO := ko_call 2 (cf_129 N X x3 x8 t) (fun g1 v1 => co_l v1 (fun y => cf_220_104 N X rk rc x0 x1 x3 x5 x6 x7 x8 x0 x1 y g1))
theorem cr_220_94 {X : Nat → Option zz_C} {s : mS} {N : Nat} {rk : Nat → List Value → cS → kO} {D : Nat} (hrk : cK5 X s D rk) (hB : 11 ≤ D) {d : Nat} (hd : D + 1 ≤ d) {rc : Nat → Nat → Int32 → Int64 → Int32 → Int32 → Int32 → Int32 → cS → kO} (hrc0 : ∀ {Q : zz_O → zz_H → Prop} {x0 : Nat} {x1 : Int32} {x3 : Int64} {x5 : Int32} {x6 : Int32} {x7 : Int32} {x8 : Int32} {h : zz_H} {t t' : cS} {o : kY}, kR h t s → rc 0 x0 x1 x3 x5 x6 x7 x8 t = some (t', o) → (∀ h', kR h' t' s → kE o Q h') → zz_J zp_P zt_tf zt_fd X d zm_220 65 [(0, .ref x0), (1, .int x1), (2, .ref 42), (3, .long x3), (5, .int x5), (6, .int x6), (7, .int x7), (8, .int x8)] [] h Q) {Q : zz_O → zz_H → Prop} {x0 : Nat} {x1 : Int32} {x3 : Int64} {x5 : Int32} {x6 : Int32} {x7 : Int32} {x8 : Int32} {h : zz_H} {t t' : cS} {o : kY} (hR : kR h t s) (hf : cf_220_94 N X rk rc x0 x1 x3 x5 x6 x7 x8 t = some (t', o)) (k : (∀ h', kR h' t' s → kE o Q h')) : zz_J zp_P zt_tf zt_fd X d zm_220 94 [(0, .ref x0), (1, .int x1), (2, .ref 42), (3, .long x3), (5, .int x5), (6, .int x6), (7, .int x7), (8, .int x8)] [] h Q := by
  unfold cf_220_94 at hf
  obtain ⟨d', rfl⟩ : ∃ d', d = d' + 1 := ⟨d - 1, by omega⟩
  refine cb_220_94 hR  (fun {h} hR => ?_)
  rcases ko_call_ok hf with ⟨g1, v1, er, hf⟩ | ⟨g1, er, hq⟩
  · obtain ⟨y, hv, hf2⟩ := co_l_ok hf
    clear hf
    have hf := hf2
    clear hf2
    subst hv
    refine cr_129 (by omega) hR er (fun h hR => ?_)
    exact cr_220_104 hrk hB hd hrc0 hR hf k
  · refine cr_129 (by omega) hR er (fun h hR => ?_)
    exact ko_thrown hq hR k
def cf_220_72 (N : Nat) (X : Nat → Option zz_C) (rk : Nat → List Value → cS → kO) (rc : Nat → Nat → Int32 → Int64 → Int32 → Int32 → Int32 → Int32 → cS → kO) (x0 : Nat) (x1 : Int32) (x3 : Int64) (x5 : Int32) (x6 : Int32) (x7 : Int32) (x8 : Int32) (t : cS) : kO := if ¬ x6 = 2 then cf_220_94 N X rk rc x0 x1 x3 x5 x6 x7 x8 t else cf_220_78 N X rk rc x0 x1 x3 x5 x6 x7 x8 t
theorem cr_220_72 {X : Nat → Option zz_C} {s : mS} {N : Nat} {rk : Nat → List Value → cS → kO} {D : Nat} (hrk : cK5 X s D rk) (hB : 11 ≤ D) {d : Nat} (hd : D + 1 ≤ d) {rc : Nat → Nat → Int32 → Int64 → Int32 → Int32 → Int32 → Int32 → cS → kO} (hrc0 : ∀ {Q : zz_O → zz_H → Prop} {x0 : Nat} {x1 : Int32} {x3 : Int64} {x5 : Int32} {x6 : Int32} {x7 : Int32} {x8 : Int32} {h : zz_H} {t t' : cS} {o : kY}, kR h t s → rc 0 x0 x1 x3 x5 x6 x7 x8 t = some (t', o) → (∀ h', kR h' t' s → kE o Q h') → zz_J zp_P zt_tf zt_fd X d zm_220 65 [(0, .ref x0), (1, .int x1), (2, .ref 42), (3, .long x3), (5, .int x5), (6, .int x6), (7, .int x7), (8, .int x8)] [] h Q) {Q : zz_O → zz_H → Prop} {x0 : Nat} {x1 : Int32} {x3 : Int64} {x5 : Int32} {x6 : Int32} {x7 : Int32} {x8 : Int32} {h : zz_H} {t t' : cS} {o : kY} (hR : kR h t s) (hf : cf_220_72 N X rk rc x0 x1 x3 x5 x6 x7 x8 t = some (t', o)) (k : (∀ h', kR h' t' s → kE o Q h')) : zz_J zp_P zt_tf zt_fd X d zm_220 72 [(0, .ref x0), (1, .int x1), (2, .ref 42), (3, .long x3), (5, .int x5), (6, .int x6), (7, .int x7), (8, .int x8)] [] h Q := by
  unfold cf_220_72 at hf
  refine cb_220_72 hR  (fun c {h} hR => ?_) (fun c {h} hR => ?_)
  · rw [if_pos c] at hf
    exact cr_220_94 hrk hB hd hrc0 hR hf k
  · rw [if_neg c] at hf
    exact cr_220_78 hrk hB hd hrc0 hR hf k
def cf_220_65 (N : Nat) (X : Nat → Option zz_C) (rk : Nat → List Value → cS → kO) (rc : Nat → Nat → Int32 → Int64 → Int32 → Int32 → Int32 → Int32 → cS → kO) (x0 : Nat) (x1 : Int32) (x3 : Int64) (x5 : Int32) (x6 : Int32) (x7 : Int32) (x8 : Int32) (t : cS) : kO := if x7 ≤ x8 then cf_220_117 N X rk  t else cf_220_72 N X rk rc x0 x1 x3 x5 x6 x7 x8 t
theorem cr_220_65 {X : Nat → Option zz_C} {s : mS} {N : Nat} {rk : Nat → List Value → cS → kO} {D : Nat} (hrk : cK5 X s D rk) (hB : 11 ≤ D) {d : Nat} (hd : D + 1 ≤ d) {rc : Nat → Nat → Int32 → Int64 → Int32 → Int32 → Int32 → Int32 → cS → kO} (hrc0 : ∀ {Q : zz_O → zz_H → Prop} {x0 : Nat} {x1 : Int32} {x3 : Int64} {x5 : Int32} {x6 : Int32} {x7 : Int32} {x8 : Int32} {h : zz_H} {t t' : cS} {o : kY}, kR h t s → rc 0 x0 x1 x3 x5 x6 x7 x8 t = some (t', o) → (∀ h', kR h' t' s → kE o Q h') → zz_J zp_P zt_tf zt_fd X d zm_220 65 [(0, .ref x0), (1, .int x1), (2, .ref 42), (3, .long x3), (5, .int x5), (6, .int x6), (7, .int x7), (8, .int x8)] [] h Q) {Q : zz_O → zz_H → Prop} {x0 : Nat} {x1 : Int32} {x3 : Int64} {x5 : Int32} {x6 : Int32} {x7 : Int32} {x8 : Int32} {h : zz_H} {t t' : cS} {o : kY} (hR : kR h t s) (hf : cf_220_65 N X rk rc x0 x1 x3 x5 x6 x7 x8 t = some (t', o)) (k : (∀ h', kR h' t' s → kE o Q h')) : zz_J zp_P zt_tf zt_fd X d zm_220 65 [(0, .ref x0), (1, .int x1), (2, .ref 42), (3, .long x3), (5, .int x5), (6, .int x6), (7, .int x7), (8, .int x8)] [] h Q := by
  unfold cf_220_65 at hf
  refine cb_220_65 hR  (fun c {h} hR => ?_) (fun c {h} hR => ?_)
  · rw [if_pos c] at hf
    exact cr_220_117 hrk hB hd hR hf k
  · rw [if_neg c] at hf
    exact cr_220_72 hrk hB hd hrc0 hR hf k
def cf_220_L4 (N : Nat) (X : Nat → Option zz_C) (rk : Nat → List Value → cS → kO) : Nat → Nat → Nat → Int32 → Int64 → Int32 → Int32 → Int32 → Int32 → cS → kO
  | 0, _, _, _, _, _, _, _, _, _ => none
  | n + 1, l, x0, x1, x3, x5, x6, x7, x8, t => if l = 0 then cf_220_65 N X rk (cf_220_L4 N X rk n) x0 x1 x3 x5 x6 x7 x8 t else none
theorem cr_220_L4 {X : Nat → Option zz_C} {s : mS} {N : Nat} {rk : Nat → List Value → cS → kO} {D : Nat} (hrk : cK5 X s D rk) (hB : 11 ≤ D) {d : Nat} (hd : D + 1 ≤ d) : ∀ n : Nat, (∀ {Q : zz_O → zz_H → Prop} {x0 : Nat} {x1 : Int32} {x3 : Int64} {x5 : Int32} {x6 : Int32} {x7 : Int32} {x8 : Int32} {h : zz_H} {t t' : cS} {o : kY}, kR h t s → cf_220_L4 N X rk n 0 x0 x1 x3 x5 x6 x7 x8 t = some (t', o) → (∀ h', kR h' t' s → kE o Q h') → zz_J zp_P zt_tf zt_fd X d zm_220 65 [(0, .ref x0), (1, .int x1), (2, .ref 42), (3, .long x3), (5, .int x5), (6, .int x6), (7, .int x7), (8, .int x8)] [] h Q) := by
  intro n
  induction n with
  | zero => exact (fun _ hf _ => by cases hf)
  | succ n ih =>
    have h0 := @ih
    intro Q _ _ _ _ _ _ _ h t t' o hR hf k
    unfold cf_220_L4 at hf
    rw [if_pos rfl] at hf
    exact cr_220_65 hrk hB hd h0 hR hf k
def cf_220_62 (N : Nat) (X : Nat → Option zz_C) (rk : Nat → List Value → cS → kO) (x0 : Nat) (x1 : Int32) (x3 : Int64) (x5 : Int32) (x6 : Int32) (x7 : Int32) (t : cS) : kO := cf_220_L4 N X rk N 0 x0 x1 x3 x5 x6 x7 0 t
theorem cr_220_62 {X : Nat → Option zz_C} {s : mS} {N : Nat} {rk : Nat → List Value → cS → kO} {D : Nat} (hrk : cK5 X s D rk) (hB : 11 ≤ D) {d : Nat} (hd : D + 1 ≤ d) {Q : zz_O → zz_H → Prop} {x0 : Nat} {x1 : Int32} {x3 : Int64} {x5 : Int32} {x6 : Int32} {x7 : Int32} {h : zz_H} {t t' : cS} {o : kY} (hR : kR h t s) (hf : cf_220_62 N X rk x0 x1 x3 x5 x6 x7 t = some (t', o)) (k : (∀ h', kR h' t' s → kE o Q h')) : zz_J zp_P zt_tf zt_fd X d zm_220 62 [(0, .ref x0), (1, .int x1), (2, .ref 42), (3, .long x3), (5, .int x5), (6, .int x6), (7, .int x7)] [] h Q := by
  unfold cf_220_62 at hf
  exact cb_220_62 hR  (fun hR => cr_220_L4 hrk hB hd N hR hf k)
def cf_220_53 (N : Nat) (X : Nat → Option zz_C) (rk : Nat → List Value → cS → kO) (x0 : Nat) (x1 : Int32) (x3 : Int64) (x5 : Int32) (x6 : Int32) (y0 : Int32) (t : cS) : kO := if kH t x0 = true then (ko_call 7 (cf_25 N X x0 x1 y0 t) (fun g1 v1 => co_v v1 (cf_220_62 N X rk x0 x1 x3 x5 x6 y0 g1))) else none
theorem cr_220_53 {X : Nat → Option zz_C} {s : mS} {N : Nat} {rk : Nat → List Value → cS → kO} {D : Nat} (hrk : cK5 X s D rk) (hB : 11 ≤ D) {d : Nat} (hd : D + 1 ≤ d) {Q : zz_O → zz_H → Prop} {x0 : Nat} {x1 : Int32} {x3 : Int64} {x5 : Int32} {x6 : Int32} {y0 : Int32} {h : zz_H} {t t' : cS} {o : kY} (hR : kR h t s) (hf : cf_220_53 N X rk x0 x1 x3 x5 x6 y0 t = some (t', o)) (k : (∀ h', kR h' t' s → kE o Q h')) : zz_J zp_P zt_tf zt_fd X d zm_220 53 [(0, .ref x0), (1, .int x1), (2, .ref 42), (3, .long x3), (5, .int x5), (6, .int x6)] [.int y0] h Q := by
  unfold cf_220_53 at hf
  obtain ⟨e0, hf⟩ := ko_if hf
  obtain ⟨d', rfl⟩ : ∃ d', d = d' + 1 := ⟨d - 1, by omega⟩
  refine cb_220_53 hR e0 (fun {h} hR => ?_)
  rcases ko_call_ok hf with ⟨g1, v1, er, hf⟩ | ⟨g1, er, hq⟩
  · obtain ⟨hv, hf2⟩ := co_v_ok hf
    clear hf
    have hf := hf2
    clear hf2
    subst hv
    refine cr_25 (by omega) hR er (fun h hR => ?_)
    exact cr_220_62 hrk hB hd hR hf k
  · refine cr_25 (by omega) hR er (fun h hR => ?_)
    exact ko_thrown hq hR k
def cf_220_48 (N : Nat) (X : Nat → Option zz_C) (rk : Nat → List Value → cS → kO) (x0 : Nat) (x1 : Int32) (x3 : Int64) (x5 : Int32) (x6 : Int32) (t : cS) : kO := ko_call 2 (cf_128 N X x3 t) (fun g1 v1 => co_i v1 (fun y => cf_220_53 N X rk x0 x1 x3 x5 x6 y g1))
theorem cr_220_48 {X : Nat → Option zz_C} {s : mS} {N : Nat} {rk : Nat → List Value → cS → kO} {D : Nat} (hrk : cK5 X s D rk) (hB : 11 ≤ D) {d : Nat} (hd : D + 1 ≤ d) {Q : zz_O → zz_H → Prop} {x0 : Nat} {x1 : Int32} {x3 : Int64} {x5 : Int32} {x6 : Int32} {h : zz_H} {t t' : cS} {o : kY} (hR : kR h t s) (hf : cf_220_48 N X rk x0 x1 x3 x5 x6 t = some (t', o)) (k : (∀ h', kR h' t' s → kE o Q h')) : zz_J zp_P zt_tf zt_fd X d zm_220 48 [(0, .ref x0), (1, .int x1), (2, .ref 42), (3, .long x3), (5, .int x5), (6, .int x6)] [] h Q := by
  unfold cf_220_48 at hf
  obtain ⟨d', rfl⟩ : ∃ d', d = d' + 1 := ⟨d - 1, by omega⟩
  refine cb_220_48 hR  (fun {h} hR => ?_)
  rcases ko_call_ok hf with ⟨g1, v1, er, hf⟩ | ⟨g1, er, hq⟩
  · obtain ⟨y, hv, hf2⟩ := co_i_ok hf
    clear hf
    have hf := hf2
    clear hf2
    subst hv
    refine cr_128 (by omega) hR er (fun h hR => ?_)
    exact cr_220_53 hrk hB hd hR hf k
  · refine cr_128 (by omega) hR er (fun h hR => ?_)
    exact ko_thrown hq hR k
def cf_220_47 (N : Nat) (X : Nat → Option zz_C) (rk : Nat → List Value → cS → kO)  (t : cS) : kO := some (t, .inl none)
theorem cr_220_47 {X : Nat → Option zz_C} {s : mS} {N : Nat} {rk : Nat → List Value → cS → kO} {D : Nat} (hrk : cK5 X s D rk) (hB : 11 ≤ D) {d : Nat} (hd : D + 1 ≤ d) {Q : zz_O → zz_H → Prop}  {h : zz_H} {t t' : cS} {o : kY} (hR : kR h t s) (hf : cf_220_47 N X rk  t = some (t', o)) (k : (∀ h', kR h' t' s → kE o Q h')) : zz_J zp_P zt_tf zt_fd X d zm_220 47 [] [] h Q := by
  unfold cf_220_47 at hf
  cases hf
  exact cb_220_47 hR  (fun {h} hR => k h hR)
def cf_220_40 (N : Nat) (X : Nat → Option zz_C) (rk : Nat → List Value → cS → kO) (x0 : Nat) (x1 : Int32) (x3 : Int64) (t : cS) : kO := if kH t x0 = true then (ko_call 7 (cf_221 N X x0 x1 x3 t) (fun g1 v1 => co_v v1 (cf_220_47 N X rk  g1))) else none
theorem cr_220_40 {X : Nat → Option zz_C} {s : mS} {N : Nat} {rk : Nat → List Value → cS → kO} {D : Nat} (hrk : cK5 X s D rk) (hB : 11 ≤ D) {d : Nat} (hd : D + 1 ≤ d) {Q : zz_O → zz_H → Prop} {x0 : Nat} {x1 : Int32} {x3 : Int64} {h : zz_H} {t t' : cS} {o : kY} (hR : kR h t s) (hf : cf_220_40 N X rk x0 x1 x3 t = some (t', o)) (k : (∀ h', kR h' t' s → kE o Q h')) : zz_J zp_P zt_tf zt_fd X d zm_220 40 [(0, .ref x0), (1, .int x1), (2, .ref 42), (3, .long x3)] [] h Q := by
  unfold cf_220_40 at hf
  obtain ⟨e0, hf⟩ := ko_if hf
  obtain ⟨d', rfl⟩ : ∃ d', d = d' + 1 := ⟨d - 1, by omega⟩
  refine cb_220_40 hR e0 (fun {h} hR => ?_)
  rcases ko_call_ok hf with ⟨g1, v1, er, hf⟩ | ⟨g1, er, hq⟩
  · obtain ⟨hv, hf2⟩ := co_v_ok hf
    clear hf
    have hf := hf2
    clear hf2
    subst hv
    refine cr_221 (by omega) hR er (fun h hR => ?_)
    exact cr_220_47 hrk hB hd hR hf k
  · refine cr_221 (by omega) hR er (fun h hR => ?_)
    exact ko_thrown hq hR k
def cf_220_34 (N : Nat) (X : Nat → Option zz_C) (rk : Nat → List Value → cS → kO) (x0 : Nat) (x1 : Int32) (x3 : Int64) (x5 : Int32) (x6 : Int32) (t : cS) : kO := if ¬ x6 = 1 then cf_220_48 N X rk x0 x1 x3 x5 x6 t else cf_220_40 N X rk x0 x1 x3 t
theorem cr_220_34 {X : Nat → Option zz_C} {s : mS} {N : Nat} {rk : Nat → List Value → cS → kO} {D : Nat} (hrk : cK5 X s D rk) (hB : 11 ≤ D) {d : Nat} (hd : D + 1 ≤ d) {Q : zz_O → zz_H → Prop} {x0 : Nat} {x1 : Int32} {x3 : Int64} {x5 : Int32} {x6 : Int32} {h : zz_H} {t t' : cS} {o : kY} (hR : kR h t s) (hf : cf_220_34 N X rk x0 x1 x3 x5 x6 t = some (t', o)) (k : (∀ h', kR h' t' s → kE o Q h')) : zz_J zp_P zt_tf zt_fd X d zm_220 34 [(0, .ref x0), (1, .int x1), (2, .ref 42), (3, .long x3), (5, .int x5), (6, .int x6)] [] h Q := by
  unfold cf_220_34 at hf
  refine cb_220_34 hR  (fun c {h} hR => ?_) (fun c {h} hR => ?_)
  · rw [if_pos c] at hf
    exact cr_220_48 hrk hB hd hR hf k
  · rw [if_neg c] at hf
    exact cr_220_40 hrk hB hd hR hf k
def cf_220_18 (N : Nat) (X : Nat → Option zz_C) (rk : Nat → List Value → cS → kO) (x0 : Nat) (x1 : Int32) (x3 : Int64) (x5 : Int32) (x6 : Int32) (t : cS) : kO := if x5 ≤ 4 then cf_220_34 N X rk x0 x1 x3 x5 x6 t else cf_220_24 N X rk x0 x1 x3 t
theorem cr_220_18 {X : Nat → Option zz_C} {s : mS} {N : Nat} {rk : Nat → List Value → cS → kO} {D : Nat} (hrk : cK5 X s D rk) (hB : 11 ≤ D) {d : Nat} (hd : D + 1 ≤ d) {Q : zz_O → zz_H → Prop} {x0 : Nat} {x1 : Int32} {x3 : Int64} {x5 : Int32} {x6 : Int32} {h : zz_H} {t t' : cS} {o : kY} (hR : kR h t s) (hf : cf_220_18 N X rk x0 x1 x3 x5 x6 t = some (t', o)) (k : (∀ h', kR h' t' s → kE o Q h')) : zz_J zp_P zt_tf zt_fd X d zm_220 18 [(0, .ref x0), (1, .int x1), (2, .ref 42), (3, .long x3), (5, .int x5), (6, .int x6)] [] h Q := by
  unfold cf_220_18 at hf
  refine cb_220_18 hR  (fun c {h} hR => ?_) (fun c {h} hR => ?_)
  · rw [if_pos c] at hf
    exact cr_220_34 hrk hB hd hR hf k
  · rw [if_neg c] at hf
    exact cr_220_24 hrk hB hd hR hf k
def cf_220_13 (N : Nat) (X : Nat → Option zz_C) (rk : Nat → List Value → cS → kO) (x0 : Nat) (x1 : Int32) (x3 : Int64) (x5 : Int32) (x6 : Int32) (t : cS) : kO := if x6 = 0 then cf_220_24 N X rk x0 x1 x3 t else cf_220_18 N X rk x0 x1 x3 x5 x6 t
theorem cr_220_13 {X : Nat → Option zz_C} {s : mS} {N : Nat} {rk : Nat → List Value → cS → kO} {D : Nat} (hrk : cK5 X s D rk) (hB : 11 ≤ D) {d : Nat} (hd : D + 1 ≤ d) {Q : zz_O → zz_H → Prop} {x0 : Nat} {x1 : Int32} {x3 : Int64} {x5 : Int32} {x6 : Int32} {h : zz_H} {t t' : cS} {o : kY} (hR : kR h t s) (hf : cf_220_13 N X rk x0 x1 x3 x5 x6 t = some (t', o)) (k : (∀ h', kR h' t' s → kE o Q h')) : zz_J zp_P zt_tf zt_fd X d zm_220 13 [(0, .ref x0), (1, .int x1), (2, .ref 42), (3, .long x3), (5, .int x5), (6, .int x6)] [] h Q := by
  unfold cf_220_13 at hf
  refine cb_220_13 hR  (fun c {h} hR => ?_) (fun c {h} hR => ?_)
  · rw [if_pos c] at hf
    exact cr_220_24 hrk hB hd hR hf k
  · rw [if_neg c] at hf
    exact cr_220_18 hrk hB hd hR hf k
def cf_220_4 (N : Nat) (X : Nat → Option zz_C) (rk : Nat → List Value → cS → kO) (x0 : Nat) (x1 : Int32) (x3 : Int64) (x5 : Int32) (y0 : Int32) (t : cS) : kO := if kH t x0 = true then (ko_call 7 (cf_25 N X x0 x1 y0 t) (fun g1 v1 => co_v v1 (cf_220_13 N X rk x0 x1 x3 x5 y0 g1))) else none
theorem cr_220_4 {X : Nat → Option zz_C} {s : mS} {N : Nat} {rk : Nat → List Value → cS → kO} {D : Nat} (hrk : cK5 X s D rk) (hB : 11 ≤ D) {d : Nat} (hd : D + 1 ≤ d) {Q : zz_O → zz_H → Prop} {x0 : Nat} {x1 : Int32} {x3 : Int64} {x5 : Int32} {y0 : Int32} {h : zz_H} {t t' : cS} {o : kY} (hR : kR h t s) (hf : cf_220_4 N X rk x0 x1 x3 x5 y0 t = some (t', o)) (k : (∀ h', kR h' t' s → kE o Q h')) : zz_J zp_P zt_tf zt_fd X d zm_220 4 [(0, .ref x0), (1, .int x1), (2, .ref 42), (3, .long x3), (5, .int x5)] [.int y0] h Q := by
  unfold cf_220_4 at hf
  obtain ⟨e0, hf⟩ := ko_if hf
  obtain ⟨d', rfl⟩ : ∃ d', d = d' + 1 := ⟨d - 1, by omega⟩
  refine cb_220_4 hR e0 (fun {h} hR => ?_)
  rcases ko_call_ok hf with ⟨g1, v1, er, hf⟩ | ⟨g1, er, hq⟩
  · obtain ⟨hv, hf2⟩ := co_v_ok hf
    clear hf
    have hf := hf2
    clear hf2
    subst hv
    refine cr_25 (by omega) hR er (fun h hR => ?_)
    exact cr_220_13 hrk hB hd hR hf k
  · refine cr_25 (by omega) hR er (fun h hR => ?_)
    exact ko_thrown hq hR k
def cf_220_0 (N : Nat) (X : Nat → Option zz_C) (rk : Nat → List Value → cS → kO) (x0 : Nat) (x1 : Int32) (x3 : Int64) (x5 : Int32) (t : cS) : kO := ko_call 1000 (cf_255 N X x3 t) (fun g1 v1 => co_i v1 (fun y => cf_220_4 N X rk x0 x1 x3 x5 y g1))
theorem cr_220_0 {X : Nat → Option zz_C} {s : mS} {N : Nat} {rk : Nat → List Value → cS → kO} {D : Nat} (hrk : cK5 X s D rk) (hB : 11 ≤ D) {d : Nat} (hd : D + 1 ≤ d) {Q : zz_O → zz_H → Prop} {x0 : Nat} {x1 : Int32} {x3 : Int64} {x5 : Int32} {h : zz_H} {t t' : cS} {o : kY} (hR : kR h t s) (hf : cf_220_0 N X rk x0 x1 x3 x5 t = some (t', o)) (k : (∀ h', kR h' t' s → kE o Q h')) : zz_J zp_P zt_tf zt_fd X d zm_220 0 [(0, .ref x0), (1, .int x1), (2, .ref 42), (3, .long x3), (5, .int x5)] [] h Q := by
  unfold cf_220_0 at hf
  obtain ⟨d', rfl⟩ : ∃ d', d = d' + 1 := ⟨d - 1, by omega⟩
  refine cb_220_0 hR  (fun {h} hR => ?_)
  rcases ko_call_ok hf with ⟨g1, v1, er, hf⟩ | ⟨g1, er, hq⟩
  · obtain ⟨y, hv, hf2⟩ := co_i_ok hf
    clear hf
    have hf := hf2
    clear hf2
    subst hv
    refine cr_255 (by omega) hR er (fun h hR => ?_)
    exact cr_220_4 hrk hB hd hR hf k
  · refine cr_255 (by omega) hR er (fun h hR => ?_)
    exact ko_thrown hq hR k
/-- writeThing -/
def cf_220 (N : Nat) (X : Nat → Option zz_C) (rk : Nat → List Value → cS → kO) (x0 : Nat) (x1 : Int32) (x3 : Int64) (x5 : Int32) (t : cS) : kO := cf_220_0 N X rk x0 x1 x3 x5 t
theorem cr_220 {X : Nat → Option zz_C} {s : mS} {N : Nat} {rk : Nat → List Value → cS → kO} {D : Nat} (hrk : cK5 X s D rk) (hB : 11 ≤ D) {d : Nat} (hd : D + 1 ≤ d) {Q : zz_O → zz_H → Prop} {x0 : Nat} {x1 : Int32} {x3 : Int64} {x5 : Int32} {h : zz_H} {t t' : cS} {o : kY} (hR : kR h t s) (hf : cf_220 N X rk x0 x1 x3 x5 t = some (t', o)) (k : ∀ h', kR h' t' s → kE o Q h') : zz_J zp_P zt_tf zt_fd X d zm_220 0 [(0, .ref x0), (1, .int x1), (2, .ref 42), (3, .long x3), (5, .int x5)] [] h Q := by
  unfold cf_220 at hf
  exact zz_J.weak (cr_220_0 hrk hB hd hR hf k) rfl ⟨rfl, rfl, rfl, rfl, rfl, trivial⟩
def cf_S5 (N : Nat) (X : Nat → Option zz_C) : Nat → Nat → List Value → cS → kO
  | 0, _, _, _ => none
  | n + 1, id, as, t => if id = 220 then (match as with
    | [.ref x0, .int x1, .long x3, .int x5] => cf_220 N X (cf_S5 N X n) x0 x1 x3 x5 t
    | _ => none) else none
theorem cr_S5 {X : Nat → Option zz_C} {s : mS} {N : Nat} : ∀ n : Nat, cK5 X s (11 + n) (cf_S5 N X n) := by
  intro n
  induction n with
  | zero =>
    intro d _ Q _ _ _ _ h t t' o _ hf _
    cases hf
  | succ n ih =>
    intro d hd Q _ _ _ _ h t t' o hR hf k
    unfold cf_S5 at hf
    rw [if_pos rfl] at hf
    exact cr_220 (D := 11 + n) ih (Nat.le_add_right _ _) (by omega) hR hf k
/-! yX7_write (ILTallySlate$Heap;J)V -/
theorem cb_216_0 {X : Nat → Option zz_C} {h : zz_H} {t : cS} {s : mS} {d : Nat} {Q : zz_O → zz_H → Prop} {x0 : Nat} {x1 : Int32} {x3 : Int64} (hR : kR h t s) (e0 : kH t x0 = true) (e1 : ¬ (x1 < 0 ∨ (kA t (2000000 + 20 * x0 + 10)).1 ≤ (Int32.toNatClampNeg x1))) (k : ∀ {h : zz_H}, kR h (jA t (2000000 + 20 * x0 + 10) (upd (kA t (2000000 + 20 * x0 + 10)).2 (Int32.toNatClampNeg x1) 0)) s → zz_J zp_P zt_tf zt_fd X d zm_255 0 [(0, .long x3)] [] h (zz_after 1000 Q (fun v h' => zz_J zp_P zt_tf zt_fd X (d + 1) zm_216 11 [(0, .ref x0), (1, .int x1), (2, .ref 42), (3, .long x3)] (v.toList ++ []) h' Q))) : zz_J zp_P zt_tf zt_fd X (d + 1) zm_216 0 [(0, .ref x0), (1, .int x1), (2, .ref 42), (3, .long x3)] [] h Q := by
  refine zz_J.n 1 rfl rfl rfl ?_
  refine zz_J.g 4 rfl (hR.gvS (v := .ref (kD t (2000000 + 20 * x0 + 10))) e0 rfl) rfl ?_
  refine zz_J.n 5 rfl rfl rfl ?_
  refine zz_J.c 6 (.int 0) rfl rfl rfl rfl ?_
  obtain ⟨h1, eq1, hR⟩ := hR.si (x := (0 : Int32)) (ka_S10 e0) rfl e1
  refine zz_J.si 7 rfl eq1 rfl ?_
  clear eq1
  refine zz_J.n 8 rfl rfl rfl ?_
  refine zz_J.cl (M' := zm_255) 11 rfl rfl (by decide) rfl rfl ⟨rfl, Nat.le_of_ble_eq_true rfl⟩ rfl ?_
  refine zz_J.mono (k hR) ?_
  intro o h' hE
  cases o with
  | inl v => exact zz_J.weak hE rfl ⟨rfl, rfl, rfl, rfl, trivial⟩
  | inr q => exact hE
theorem cb_216_11 {X : Nat → Option zz_C} {h : zz_H} {t : cS} {s : mS} {d : Nat} {Q : zz_O → zz_H → Prop} {x0 : Nat} {x1 : Int32} {x3 : Int64} {y0 : Int32} (hR : kR h t s) (k1 : y0 = (-1) → (∀ {h : zz_H}, kR h t s → zz_J zp_P zt_tf zt_fd X d zm_216 23 [] [] h Q)) (k2 : ¬ y0 = (-1) → (∀ {h : zz_H}, kR h t s → zz_J zp_P zt_tf zt_fd X d zm_216 15 [(0, .ref x0), (1, .int x1), (2, .ref 42), (3, .long x3)] [] h Q)) : zz_J zp_P zt_tf zt_fd X d zm_216 11 [(0, .ref x0), (1, .int x1), (2, .ref 42), (3, .long x3)] [.int y0] h Q := by
  refine zz_J.c 12 (.int (-1)) rfl rfl rfl rfl ?_
  refine zz_J.b2 23 15 (A := y0 = (-1)) rfl rfl (by decide) rfl rfl (fun c => ?_) (fun c => ?_)
  · exact zz_J.weak (k1 c hR) rfl trivial
  · exact zz_J.weak (k2 c hR) rfl ⟨rfl, rfl, rfl, rfl, trivial⟩
theorem cb_216_15 {X : Nat → Option zz_C} {h : zz_H} {t : cS} {s : mS} {d : Nat} {Q : zz_O → zz_H → Prop} {x0 : Nat} {x1 : Int32} {x3 : Int64} (hR : kR h t s) (e0 : kH t x0 = true) (k : ∀ {h : zz_H}, kR h t s → zz_J zp_P zt_tf zt_fd X d zm_220 0 [(0, .ref x0), (1, .int x1), (2, .ref 42), (3, .long x3), (5, .int 0)] [] h (zz_after 7 Q (fun v h' => zz_J zp_P zt_tf zt_fd X (d + 1) zm_216 23 [] (v.toList ++ []) h' Q))) : zz_J zp_P zt_tf zt_fd X (d + 1) zm_216 15 [(0, .ref x0), (1, .int x1), (2, .ref 42), (3, .long x3)] [] h Q := by
  refine zz_J.n 16 rfl rfl rfl ?_
  refine zz_J.n 17 rfl rfl rfl ?_
  refine zz_J.n 18 rfl rfl rfl ?_
  refine zz_J.n 19 rfl rfl rfl ?_
  refine zz_J.c 20 (.int 0) rfl rfl rfl rfl ?_
  refine zz_J.cv 23 (as := []) rfl rfl (hR.clS e0 (by decide)) (by decide) (Nat.le_of_ble_eq_true rfl) (Nat.le_of_ble_eq_true rfl) rfl (Nat.le_of_ble_eq_true rfl) rfl ?_
  refine zz_J.mono (k hR) ?_
  intro o h' hE
  cases o with
  | inl v => exact zz_J.weak hE rfl trivial
  | inr q => exact hE
theorem cb_216_23 {X : Nat → Option zz_C} {h : zz_H} {t : cS} {s : mS} {d : Nat} {Q : zz_O → zz_H → Prop}  (hR : kR h t s) (k : ∀ {h : zz_H}, kR h t s → Q (.inl none) h) : zz_J zp_P zt_tf zt_fd X d zm_216 23 [] [] h Q := by
  refine zz_J.ret rfl rfl rfl ?_
  exact k hR
def cf_216_23 (N : Nat) (X : Nat → Option zz_C)  (t : cS) : kO := some (t, .inl none)
theorem cr_216_23 {X : Nat → Option zz_C} {s : mS} {N : Nat} {d : Nat} (hd : 24 ≤ d) {Q : zz_O → zz_H → Prop}  {h : zz_H} {t t' : cS} {o : kY} (hR : kR h t s) (hf : cf_216_23 N X  t = some (t', o)) (k : (∀ h', kR h' t' s → kE o Q h')) : zz_J zp_P zt_tf zt_fd X d zm_216 23 [] [] h Q := by
  unfold cf_216_23 at hf
  cases hf
  exact cb_216_23 hR  (fun {h} hR => k h hR)
def cf_216_15 (N : Nat) (X : Nat → Option zz_C) (x0 : Nat) (x1 : Int32) (x3 : Int64) (t : cS) : kO := if kH t x0 = true then (ko_call 7 (cf_S5 N X 12 220 [.ref x0, .int x1, .long x3, .int 0] t) (fun g1 v1 => co_v v1 (cf_216_23 N X  g1))) else none
theorem cr_216_15 {X : Nat → Option zz_C} {s : mS} {N : Nat} {d : Nat} (hd : 24 ≤ d) {Q : zz_O → zz_H → Prop} {x0 : Nat} {x1 : Int32} {x3 : Int64} {h : zz_H} {t t' : cS} {o : kY} (hR : kR h t s) (hf : cf_216_15 N X x0 x1 x3 t = some (t', o)) (k : (∀ h', kR h' t' s → kE o Q h')) : zz_J zp_P zt_tf zt_fd X d zm_216 15 [(0, .ref x0), (1, .int x1), (2, .ref 42), (3, .long x3)] [] h Q := by
  unfold cf_216_15 at hf
  obtain ⟨e0, hf⟩ := ko_if hf
  obtain ⟨d', rfl⟩ : ∃ d', d = d' + 1 := ⟨d - 1, by omega⟩
  refine cb_216_15 hR e0 (fun {h} hR => ?_)
  rcases ko_call_ok hf with ⟨g1, v1, er, hf⟩ | ⟨g1, er, hq⟩
  · obtain ⟨hv, hf2⟩ := co_v_ok hf
    clear hf
    have hf := hf2
    clear hf2
    subst hv
    refine (cr_S5 12) (by omega) hR er (fun h hR => ?_)
    exact cr_216_23 hd hR hf k
  · refine (cr_S5 12) (by omega) hR er (fun h hR => ?_)
    exact ko_thrown hq hR k
def cf_216_11 (N : Nat) (X : Nat → Option zz_C) (x0 : Nat) (x1 : Int32) (x3 : Int64) (y0 : Int32) (t : cS) : kO := if y0 = (-1) then cf_216_23 N X  t else cf_216_15 N X x0 x1 x3 t
theorem cr_216_11 {X : Nat → Option zz_C} {s : mS} {N : Nat} {d : Nat} (hd : 24 ≤ d) {Q : zz_O → zz_H → Prop} {x0 : Nat} {x1 : Int32} {x3 : Int64} {y0 : Int32} {h : zz_H} {t t' : cS} {o : kY} (hR : kR h t s) (hf : cf_216_11 N X x0 x1 x3 y0 t = some (t', o)) (k : (∀ h', kR h' t' s → kE o Q h')) : zz_J zp_P zt_tf zt_fd X d zm_216 11 [(0, .ref x0), (1, .int x1), (2, .ref 42), (3, .long x3)] [.int y0] h Q := by
  unfold cf_216_11 at hf
  refine cb_216_11 hR  (fun c {h} hR => ?_) (fun c {h} hR => ?_)
  · rw [if_pos c] at hf
    exact cr_216_23 hd hR hf k
  · rw [if_neg c] at hf
    exact cr_216_15 hd hR hf k
def cf_216_0 (N : Nat) (X : Nat → Option zz_C) (x0 : Nat) (x1 : Int32) (x3 : Int64) (t : cS) : kO := if kH t x0 = true then (if ¬ (x1 < 0 ∨ (kA t (2000000 + 20 * x0 + 10)).1 ≤ (Int32.toNatClampNeg x1)) then (ko_call 1000 (cf_255 N X x3 (jA t (2000000 + 20 * x0 + 10) (upd (kA t (2000000 + 20 * x0 + 10)).2 (Int32.toNatClampNeg x1) 0))) (fun g1 v1 => co_i v1 (fun y => cf_216_11 N X x0 x1 x3 y g1))) else none) else none
theorem cr_216_0 {X : Nat → Option zz_C} {s : mS} {N : Nat} {d : Nat} (hd : 24 ≤ d) {Q : zz_O → zz_H → Prop} {x0 : Nat} {x1 : Int32} {x3 : Int64} {h : zz_H} {t t' : cS} {o : kY} (hR : kR h t s) (hf : cf_216_0 N X x0 x1 x3 t = some (t', o)) (k : (∀ h', kR h' t' s → kE o Q h')) : zz_J zp_P zt_tf zt_fd X d zm_216 0 [(0, .ref x0), (1, .int x1), (2, .ref 42), (3, .long x3)] [] h Q := by
  unfold cf_216_0 at hf
  obtain ⟨e0, hf⟩ := ko_if hf
  obtain ⟨e1, hf⟩ := ko_if hf
  obtain ⟨d', rfl⟩ : ∃ d', d = d' + 1 := ⟨d - 1, by omega⟩
  refine cb_216_0 hR e0 e1 (fun {h} hR => ?_)
  rcases ko_call_ok hf with ⟨g1, v1, er, hf⟩ | ⟨g1, er, hq⟩
  · obtain ⟨y, hv, hf2⟩ := co_i_ok hf
    clear hf
    have hf := hf2
    clear hf2
    subst hv
    refine cr_255 (by omega) hR er (fun h hR => ?_)
    exact cr_216_11 hd hR hf k
  · refine cr_255 (by omega) hR er (fun h hR => ?_)
    exact ko_thrown hq hR k
/-- write -/
def cf_216 (N : Nat) (X : Nat → Option zz_C) (x0 : Nat) (x1 : Int32) (x3 : Int64) (t : cS) : kO := cf_216_0 N X x0 x1 x3 t
theorem cr_216 {X : Nat → Option zz_C} {s : mS} {N : Nat} {d : Nat} (hd : 24 ≤ d) {Q : zz_O → zz_H → Prop} {x0 : Nat} {x1 : Int32} {x3 : Int64} {h : zz_H} {t t' : cS} {o : kY} (hR : kR h t s) (hf : cf_216 N X x0 x1 x3 t = some (t', o)) (k : ∀ h', kR h' t' s → kE o Q h') : zz_J zp_P zt_tf zt_fd X d zm_216 0 [(0, .ref x0), (1, .int x1), (2, .ref 42), (3, .long x3)] [] h Q := by
  unfold cf_216 at hf
  exact zz_J.weak (cr_216_0 hd hR hf k) rfl ⟨rfl, rfl, rfl, rfl, trivial⟩
/-! yX12_keep (I)V -/
theorem cb_250_0 {X : Nat → Option zz_C} {h : zz_H} {t : cS} {s : mS} {d : Nat} {Q : zz_O → zz_H → Prop} {x1 : Int32} (hR : kR h t s) (k : ∀ {h : zz_H}, kR h t s → zz_J zp_P zt_tf zt_fd X d zm_250 2 [(0, .ref 0), (1, .int x1), (2, .int 0)] [] h Q) : zz_J zp_P zt_tf zt_fd X d zm_250 0 [(0, .ref 0), (1, .int x1)] [] h Q := by
  refine zz_J.c 1 (.int 0) rfl rfl rfl rfl ?_
  refine zz_J.n 2 rfl rfl rfl ?_
  exact zz_J.weak (k hR) rfl ⟨rfl, rfl, rfl, trivial⟩
theorem cb_250_2 {X : Nat → Option zz_C} {h : zz_H} {t : cS} {s : mS} {d : Nat} {Q : zz_O → zz_H → Prop} {x1 : Int32} {x2 : Int32} (hR : kR h t s) (k1 : 8 ≤ x2 → (∀ {h : zz_H}, kR h t s → zz_J zp_P zt_tf zt_fd X d zm_250 45 [(0, .ref 0), (1, .int x1)] [] h Q)) (k2 : ¬ 8 ≤ x2 → (∀ {h : zz_H}, kR h t s → zz_J zp_P zt_tf zt_fd X d zm_250 8 [(0, .ref 0), (1, .int x1), (2, .int x2)] [] h Q)) : zz_J zp_P zt_tf zt_fd X d zm_250 2 [(0, .ref 0), (1, .int x1), (2, .int x2)] [] h Q := by
  refine zz_J.n 3 rfl rfl rfl ?_
  refine zz_J.c 5 (.int 8) rfl rfl rfl rfl ?_
  refine zz_J.b2 45 8 (A := 8 ≤ x2) rfl rfl (by decide) rfl rfl (fun c => ?_) (fun c => ?_)
  · exact zz_J.weak (k1 c hR) rfl ⟨rfl, rfl, trivial⟩
  · exact zz_J.weak (k2 c hR) rfl ⟨rfl, rfl, rfl, trivial⟩
theorem cb_250_8 {X : Nat → Option zz_C} {h : zz_H} {t : cS} {s : mS} {d : Nat} {Q : zz_O → zz_H → Prop} {x1 : Int32} {x2 : Int32} (hR : kR h t s) (k : ∀ {h : zz_H}, kR h t s → zz_J zp_P zt_tf zt_fd X d zm_138 0 [(0, .ref 49), (1, .int x2)] [] h (zz_after 3 Q (fun v h' => zz_J zp_P zt_tf zt_fd X (d + 1) zm_250 16 [(0, .ref 0), (1, .int x1), (2, .int x2)] (v.toList ++ []) h' Q))) : zz_J zp_P zt_tf zt_fd X (d + 1) zm_250 8 [(0, .ref 0), (1, .int x1), (2, .int x2)] [] h Q := by
  refine zz_J.n 9 rfl rfl rfl ?_
  refine zz_J.g 12 rfl (hR.gv (v := .ref 49) ko_0 (by decide) rfl) rfl ?_
  refine zz_J.n 13 rfl rfl rfl ?_
  refine zz_J.cv 16 (as := []) rfl rfl (hR.clO ko_49 (by decide) (by decide)) (by decide) (Nat.le_of_ble_eq_true rfl) (Nat.le_of_ble_eq_true rfl) rfl (Nat.le_of_ble_eq_true rfl) rfl ?_
  refine zz_J.mono (k hR) ?_
  intro o h' hE
  cases o with
  | inl v => exact zz_J.weak hE rfl ⟨rfl, rfl, rfl, trivial⟩
  | inr q => exact hE
theorem cb_250_16 {X : Nat → Option zz_C} {h : zz_H} {t : cS} {s : mS} {d : Nat} {Q : zz_O → zz_H → Prop} {x1 : Int32} {x2 : Int32} {y0 : Int32} (hR : kR h t s) (k1 : y0 = 0 → (∀ {h : zz_H}, kR h t s → zz_J zp_P zt_tf zt_fd X d zm_250 39 [(0, .ref 0), (1, .int x1), (2, .int x2)] [] h Q)) (k2 : ¬ y0 = 0 → (∀ {h : zz_H}, kR h t s → zz_J zp_P zt_tf zt_fd X d zm_250 19 [(0, .ref 0), (1, .int x1), (2, .int x2)] [] h Q)) : zz_J zp_P zt_tf zt_fd X d zm_250 16 [(0, .ref 0), (1, .int x1), (2, .int x2)] [.int y0] h Q := by
  refine zz_J.b1 39 19 (A := y0 = 0) rfl rfl (by decide) rfl rfl (fun c => ?_) (fun c => ?_)
  · exact zz_J.weak (k1 c hR) rfl ⟨rfl, rfl, rfl, trivial⟩
  · exact zz_J.weak (k2 c hR) rfl ⟨rfl, rfl, rfl, trivial⟩
theorem cb_250_19 {X : Nat → Option zz_C} {h : zz_H} {t : cS} {s : mS} {d : Nat} {Q : zz_O → zz_H → Prop} {x1 : Int32} {x2 : Int32} (hR : kR h t s) {w0 : Nat} (e0 : (kP t 0 7) = some w0) (k : ∀ {h : zz_H}, kR h t s → zz_J zp_P zt_tf zt_fd X d zm_139 0 [(0, .ref 49), (1, .int x2)] [] h (zz_after 3 Q (fun v h' => zz_J zp_P zt_tf zt_fd X (d + 1) zm_250 36 [(0, .ref 0), (1, .int x1), (2, .int x2)] (v.toList ++ [.ref 42, .int x2, .ref w0]) h' Q))) : zz_J zp_P zt_tf zt_fd X (d + 1) zm_250 19 [(0, .ref 0), (1, .int x1), (2, .int x2)] [] h Q := by
  refine zz_J.n 20 rfl rfl rfl ?_
  refine zz_J.g 23 rfl (hR.gv (v := .ref w0) ko_0 (by decide) ((congrArg (fun q => some (zz_rv q)) e0).trans rfl)) rfl ?_
  refine zz_J.n 24 rfl rfl rfl ?_
  refine zz_J.n 25 rfl rfl rfl ?_
  refine zz_J.g 28 rfl (hR.gv (v := .ref 42) ko_0 (by decide) rfl) rfl ?_
  refine zz_J.n 29 rfl rfl rfl ?_
  refine zz_J.g 32 rfl (hR.gv (v := .ref 49) ko_0 (by decide) rfl) rfl ?_
  refine zz_J.n 33 rfl rfl rfl ?_
  refine zz_J.cv 36 (as := [.ref 42, .int x2, .ref w0]) rfl rfl (hR.clO ko_49 (by decide) (by decide)) (by decide) (Nat.le_of_ble_eq_true rfl) (Nat.le_of_ble_eq_true rfl) rfl (Nat.le_of_ble_eq_true rfl) rfl ?_
  refine zz_J.mono (k hR) ?_
  intro o h' hE
  cases o with
  | inl v => exact zz_J.weak hE rfl ⟨rfl, rfl, rfl, trivial⟩
  | inr q => exact hE
theorem cb_250_36 {X : Nat → Option zz_C} {h : zz_H} {t : cS} {s : mS} {d : Nat} {Q : zz_O → zz_H → Prop} {x1 : Int32} {x2 : Int32} {y0 : Nat} {y1 : Int32} {y3 : Int64} (hR : kR h t s) (e0 : kH t y0 = true) (k : ∀ {h : zz_H}, kR h t s → zz_J zp_P zt_tf zt_fd X d zm_216 0 [(0, .ref y0), (1, .int y1), (2, .ref 42), (3, .long y3)] [] h (zz_after 7 Q (fun v h' => zz_J zp_P zt_tf zt_fd X (d + 1) zm_250 39 [(0, .ref 0), (1, .int x1), (2, .int x2)] (v.toList ++ []) h' Q))) : zz_J zp_P zt_tf zt_fd X (d + 1) zm_250 36 [(0, .ref 0), (1, .int x1), (2, .int x2)] [.long y3, .ref 42, .int y1, .ref y0] h Q := by
  refine zz_J.cv 39 (as := []) rfl rfl (hR.clS e0 (by decide)) (by decide) (Nat.le_of_ble_eq_true rfl) (Nat.le_of_ble_eq_true rfl) rfl (Nat.le_of_ble_eq_true rfl) rfl ?_
  refine zz_J.mono (k hR) ?_
  intro o h' hE
  cases o with
  | inl v => exact zz_J.weak hE rfl ⟨rfl, rfl, rfl, trivial⟩
  | inr q => exact hE
theorem cb_250_39 {X : Nat → Option zz_C} {h : zz_H} {t : cS} {s : mS} {d : Nat} {Q : zz_O → zz_H → Prop} {x1 : Int32} {x2 : Int32} (hR : kR h t s) (k : ∀ {h : zz_H}, kR h t s → zz_J zp_P zt_tf zt_fd X d zm_250 2 [(0, .ref 0), (1, .int x1), (2, .int (x2 + 1))] [] h Q) : zz_J zp_P zt_tf zt_fd X d zm_250 39 [(0, .ref 0), (1, .int x1), (2, .int x2)] [] h Q := by
  refine zz_J.n 42 rfl rfl rfl ?_
  refine zz_J.n 2 rfl rfl rfl ?_
  exact zz_J.weak (k hR) rfl ⟨rfl, rfl, rfl, trivial⟩
theorem cb_250_45 {X : Nat → Option zz_C} {h : zz_H} {t : cS} {s : mS} {d : Nat} {Q : zz_O → zz_H → Prop} {x1 : Int32} (hR : kR h t s) (k1 : x1 = (-1) → (∀ {h : zz_H}, kR h t s → zz_J zp_P zt_tf zt_fd X d zm_250 69 [] [] h Q)) (k2 : ¬ x1 = (-1) → (∀ {h : zz_H}, kR h t s → zz_J zp_P zt_tf zt_fd X d zm_250 50 [(0, .ref 0), (1, .int x1)] [] h Q)) : zz_J zp_P zt_tf zt_fd X d zm_250 45 [(0, .ref 0), (1, .int x1)] [] h Q := by
  refine zz_J.n 46 rfl rfl rfl ?_
  refine zz_J.c 47 (.int (-1)) rfl rfl rfl rfl ?_
  refine zz_J.b2 69 50 (A := x1 = (-1)) rfl rfl (by decide) rfl rfl (fun c => ?_) (fun c => ?_)
  · exact zz_J.weak (k1 c hR) rfl trivial
  · exact zz_J.weak (k2 c hR) rfl ⟨rfl, rfl, trivial⟩
theorem cb_250_50 {X : Nat → Option zz_C} {h : zz_H} {t : cS} {s : mS} {d : Nat} {Q : zz_O → zz_H → Prop} {x1 : Int32} (hR : kR h t s) {w0 : Nat} (e0 : (kP t 0 7) = some w0) (k : ∀ {h : zz_H}, kR h t s → zz_J zp_P zt_tf zt_fd X d zm_140 0 [(0, .ref 49)] [] h (zz_after 3 Q (fun v h' => zz_J zp_P zt_tf zt_fd X (d + 1) zm_250 66 [] (v.toList ++ [.ref 42, .int x1, .ref w0]) h' Q))) : zz_J zp_P zt_tf zt_fd X (d + 1) zm_250 50 [(0, .ref 0), (1, .int x1)] [] h Q := by
  refine zz_J.n 51 rfl rfl rfl ?_
  refine zz_J.g 54 rfl (hR.gv (v := .ref w0) ko_0 (by decide) ((congrArg (fun q => some (zz_rv q)) e0).trans rfl)) rfl ?_
  refine zz_J.n 55 rfl rfl rfl ?_
  refine zz_J.n 56 rfl rfl rfl ?_
  refine zz_J.g 59 rfl (hR.gv (v := .ref 42) ko_0 (by decide) rfl) rfl ?_
  refine zz_J.n 60 rfl rfl rfl ?_
  refine zz_J.g 63 rfl (hR.gv (v := .ref 49) ko_0 (by decide) rfl) rfl ?_
  refine zz_J.cv 66 (as := [.ref 42, .int x1, .ref w0]) rfl rfl (hR.clO ko_49 (by decide) (by decide)) (by decide) (Nat.le_of_ble_eq_true rfl) (Nat.le_of_ble_eq_true rfl) rfl (Nat.le_of_ble_eq_true rfl) rfl ?_
  refine zz_J.mono (k hR) ?_
  intro o h' hE
  cases o with
  | inl v => exact zz_J.weak hE rfl trivial
  | inr q => exact hE
theorem cb_250_66 {X : Nat → Option zz_C} {h : zz_H} {t : cS} {s : mS} {d : Nat} {Q : zz_O → zz_H → Prop} {y0 : Nat} {y1 : Int32} {y3 : Int64} (hR : kR h t s) (e0 : kH t y0 = true) (k : ∀ {h : zz_H}, kR h t s → zz_J zp_P zt_tf zt_fd X d zm_216 0 [(0, .ref y0), (1, .int y1), (2, .ref 42), (3, .long y3)] [] h (zz_after 7 Q (fun v h' => zz_J zp_P zt_tf zt_fd X (d + 1) zm_250 69 [] (v.toList ++ []) h' Q))) : zz_J zp_P zt_tf zt_fd X (d + 1) zm_250 66 [] [.long y3, .ref 42, .int y1, .ref y0] h Q := by
  refine zz_J.cv 69 (as := []) rfl rfl (hR.clS e0 (by decide)) (by decide) (Nat.le_of_ble_eq_true rfl) (Nat.le_of_ble_eq_true rfl) rfl (Nat.le_of_ble_eq_true rfl) rfl ?_
  refine zz_J.mono (k hR) ?_
  intro o h' hE
  cases o with
  | inl v => exact zz_J.weak hE rfl trivial
  | inr q => exact hE
theorem cb_250_69 {X : Nat → Option zz_C} {h : zz_H} {t : cS} {s : mS} {d : Nat} {Q : zz_O → zz_H → Prop}  (hR : kR h t s) (k : ∀ {h : zz_H}, kR h t s → Q (.inl none) h) : zz_J zp_P zt_tf zt_fd X d zm_250 69 [] [] h Q := by
  refine zz_J.ret rfl rfl rfl ?_
  exact k hR
def cf_250_69 (N : Nat) (X : Nat → Option zz_C)  (t : cS) : kO := some (t, .inl none)
theorem cr_250_69 {X : Nat → Option zz_C} {s : mS} {N : Nat} {d : Nat} (hd : 25 ≤ d) {Q : zz_O → zz_H → Prop}  {h : zz_H} {t t' : cS} {o : kY} (hR : kR h t s) (hf : cf_250_69 N X  t = some (t', o)) (k : (∀ h', kR h' t' s → kE o Q h')) : zz_J zp_P zt_tf zt_fd X d zm_250 69 [] [] h Q := by
  unfold cf_250_69 at hf
  cases hf
  exact cb_250_69 hR  (fun {h} hR => k h hR)
def cf_250_66 (N : Nat) (X : Nat → Option zz_C) (y0 : Nat) (y1 : Int32) (y3 : Int64) (t : cS) : kO := if kH t y0 = true then (ko_call 7 (cf_216 N X y0 y1 y3 t) (fun g1 v1 => co_v v1 (cf_250_69 N X  g1))) else none
theorem cr_250_66 {X : Nat → Option zz_C} {s : mS} {N : Nat} {d : Nat} (hd : 25 ≤ d) {Q : zz_O → zz_H → Prop} {y0 : Nat} {y1 : Int32} {y3 : Int64} {h : zz_H} {t t' : cS} {o : kY} (hR : kR h t s) (hf : cf_250_66 N X y0 y1 y3 t = some (t', o)) (k : (∀ h', kR h' t' s → kE o Q h')) : zz_J zp_P zt_tf zt_fd X d zm_250 66 [] [.long y3, .ref 42, .int y1, .ref y0] h Q := by
  unfold cf_250_66 at hf
  obtain ⟨e0, hf⟩ := ko_if hf
  obtain ⟨d', rfl⟩ : ∃ d', d = d' + 1 := ⟨d - 1, by omega⟩
  refine cb_250_66 hR e0 (fun {h} hR => ?_)
  rcases ko_call_ok hf with ⟨g1, v1, er, hf⟩ | ⟨g1, er, hq⟩
  · obtain ⟨hv, hf2⟩ := co_v_ok hf
    clear hf
    have hf := hf2
    clear hf2
    subst hv
    refine cr_216 (by omega) hR er (fun h hR => ?_)
    exact cr_250_69 hd hR hf k
  · refine cr_216 (by omega) hR er (fun h hR => ?_)
    exact ko_thrown hq hR k
def cf_250_50 (N : Nat) (X : Nat → Option zz_C) (x1 : Int32) (t : cS) : kO := co_b ((kP t 0 7)) (fun w0 => ko_call 3 (cf_140 N X  t) (fun g1 v1 => co_l v1 (fun y => cf_250_66 N X w0 x1 y g1)))
theorem cr_250_50 {X : Nat → Option zz_C} {s : mS} {N : Nat} {d : Nat} (hd : 25 ≤ d) {Q : zz_O → zz_H → Prop} {x1 : Int32} {h : zz_H} {t t' : cS} {o : kY} (hR : kR h t s) (hf : cf_250_50 N X x1 t = some (t', o)) (k : (∀ h', kR h' t' s → kE o Q h')) : zz_J zp_P zt_tf zt_fd X d zm_250 50 [(0, .ref 0), (1, .int x1)] [] h Q := by
  unfold cf_250_50 at hf
  obtain ⟨w0, e0, hf⟩ := co_b_ok hf
  obtain ⟨d', rfl⟩ : ∃ d', d = d' + 1 := ⟨d - 1, by omega⟩
  refine cb_250_50 hR e0 (fun {h} hR => ?_)
  rcases ko_call_ok hf with ⟨g1, v1, er, hf⟩ | ⟨g1, er, hq⟩
  · obtain ⟨y, hv, hf2⟩ := co_l_ok hf
    clear hf
    have hf := hf2
    clear hf2
    subst hv
    refine cr_140 (by omega) hR er (fun h hR => ?_)
    exact cr_250_66 hd hR hf k
  · refine cr_140 (by omega) hR er (fun h hR => ?_)
    exact ko_thrown hq hR k
def cf_250_45 (N : Nat) (X : Nat → Option zz_C) (x1 : Int32) (t : cS) : kO := if x1 = (-1) then cf_250_69 N X  t else cf_250_50 N X x1 t
theorem cr_250_45 {X : Nat → Option zz_C} {s : mS} {N : Nat} {d : Nat} (hd : 25 ≤ d) {Q : zz_O → zz_H → Prop} {x1 : Int32} {h : zz_H} {t t' : cS} {o : kY} (hR : kR h t s) (hf : cf_250_45 N X x1 t = some (t', o)) (k : (∀ h', kR h' t' s → kE o Q h')) : zz_J zp_P zt_tf zt_fd X d zm_250 45 [(0, .ref 0), (1, .int x1)] [] h Q := by
  unfold cf_250_45 at hf
  refine cb_250_45 hR  (fun c {h} hR => ?_) (fun c {h} hR => ?_)
  · rw [if_pos c] at hf
    exact cr_250_69 hd hR hf k
  · rw [if_neg c] at hf
    exact cr_250_50 hd hR hf k
def cf_250_39 (N : Nat) (X : Nat → Option zz_C) (rc : Nat → Int32 → Int32 → cS → kO) (x1 : Int32) (x2 : Int32) (t : cS) : kO := rc 0 x1 (x2 + 1) t
theorem cr_250_39 {X : Nat → Option zz_C} {s : mS} {N : Nat} {d : Nat} (hd : 25 ≤ d) {rc : Nat → Int32 → Int32 → cS → kO} (hrc0 : ∀ {Q : zz_O → zz_H → Prop} {x1 : Int32} {x2 : Int32} {h : zz_H} {t t' : cS} {o : kY}, kR h t s → rc 0 x1 x2 t = some (t', o) → (∀ h', kR h' t' s → kE o Q h') → zz_J zp_P zt_tf zt_fd X d zm_250 2 [(0, .ref 0), (1, .int x1), (2, .int x2)] [] h Q) {Q : zz_O → zz_H → Prop} {x1 : Int32} {x2 : Int32} {h : zz_H} {t t' : cS} {o : kY} (hR : kR h t s) (hf : cf_250_39 N X rc x1 x2 t = some (t', o)) (k : (∀ h', kR h' t' s → kE o Q h')) : zz_J zp_P zt_tf zt_fd X d zm_250 39 [(0, .ref 0), (1, .int x1), (2, .int x2)] [] h Q := by
  unfold cf_250_39 at hf
  exact cb_250_39 hR  (fun hR => hrc0 hR hf k)
def cf_250_36 (N : Nat) (X : Nat → Option zz_C) (rc : Nat → Int32 → Int32 → cS → kO) (x1 : Int32) (x2 : Int32) (y0 : Nat) (y1 : Int32) (y3 : Int64) (t : cS) : kO := if kH t y0 = true then (ko_call 7 (cf_216 N X y0 y1 y3 t) (fun g1 v1 => co_v v1 (cf_250_39 N X rc x1 x2 g1))) else none
theorem cr_250_36 {X : Nat → Option zz_C} {s : mS} {N : Nat} {d : Nat} (hd : 25 ≤ d) {rc : Nat → Int32 → Int32 → cS → kO} (hrc0 : ∀ {Q : zz_O → zz_H → Prop} {x1 : Int32} {x2 : Int32} {h : zz_H} {t t' : cS} {o : kY}, kR h t s → rc 0 x1 x2 t = some (t', o) → (∀ h', kR h' t' s → kE o Q h') → zz_J zp_P zt_tf zt_fd X d zm_250 2 [(0, .ref 0), (1, .int x1), (2, .int x2)] [] h Q) {Q : zz_O → zz_H → Prop} {x1 : Int32} {x2 : Int32} {y0 : Nat} {y1 : Int32} {y3 : Int64} {h : zz_H} {t t' : cS} {o : kY} (hR : kR h t s) (hf : cf_250_36 N X rc x1 x2 y0 y1 y3 t = some (t', o)) (k : (∀ h', kR h' t' s → kE o Q h')) : zz_J zp_P zt_tf zt_fd X d zm_250 36 [(0, .ref 0), (1, .int x1), (2, .int x2)] [.long y3, .ref 42, .int y1, .ref y0] h Q := by
  unfold cf_250_36 at hf
  obtain ⟨e0, hf⟩ := ko_if hf
  obtain ⟨d', rfl⟩ : ∃ d', d = d' + 1 := ⟨d - 1, by omega⟩
  refine cb_250_36 hR e0 (fun {h} hR => ?_)
  rcases ko_call_ok hf with ⟨g1, v1, er, hf⟩ | ⟨g1, er, hq⟩
  · obtain ⟨hv, hf2⟩ := co_v_ok hf
    clear hf
    have hf := hf2
    clear hf2
    subst hv
    refine cr_216 (by omega) hR er (fun h hR => ?_)
    exact cr_250_39 hd hrc0 hR hf k
  · refine cr_216 (by omega) hR er (fun h hR => ?_)
    exact ko_thrown hq hR k
def cf_250_19 (N : Nat) (X : Nat → Option zz_C) (rc : Nat → Int32 → Int32 → cS → kO) (x1 : Int32) (x2 : Int32) (t : cS) : kO := co_b ((kP t 0 7)) (fun w0 => ko_call 3 (cf_139 N X x2 t) (fun g1 v1 => co_l v1 (fun y => cf_250_36 N X rc x1 x2 w0 x2 y g1)))
theorem cr_250_19 {X : Nat → Option zz_C} {s : mS} {N : Nat} {d : Nat} (hd : 25 ≤ d) {rc : Nat → Int32 → Int32 → cS → kO} (hrc0 : ∀ {Q : zz_O → zz_H → Prop} {x1 : Int32} {x2 : Int32} {h : zz_H} {t t' : cS} {o : kY}, kR h t s → rc 0 x1 x2 t = some (t', o) → (∀ h', kR h' t' s → kE o Q h') → zz_J zp_P zt_tf zt_fd X d zm_250 2 [(0, .ref 0), (1, .int x1), (2, .int x2)] [] h Q) {Q : zz_O → zz_H → Prop} {x1 : Int32} {x2 : Int32} {h : zz_H} {t t' : cS} {o : kY} (hR : kR h t s) (hf : cf_250_19 N X rc x1 x2 t = some (t', o)) (k : (∀ h', kR h' t' s → kE o Q h')) : zz_J zp_P zt_tf zt_fd X d zm_250 19 [(0, .ref 0), (1, .int x1), (2, .int x2)] [] h Q := by
  unfold cf_250_19 at hf
  obtain ⟨w0, e0, hf⟩ := co_b_ok hf
  obtain ⟨d', rfl⟩ : ∃ d', d = d' + 1 := ⟨d - 1, by omega⟩
  refine cb_250_19 hR e0 (fun {h} hR => ?_)
  rcases ko_call_ok hf with ⟨g1, v1, er, hf⟩ | ⟨g1, er, hq⟩
  · obtain ⟨y, hv, hf2⟩ := co_l_ok hf
    clear hf
    have hf := hf2
    clear hf2
    subst hv
    refine cr_139 (by omega) hR er (fun h hR => ?_)
    exact cr_250_36 hd hrc0 hR hf k
  · refine cr_139 (by omega) hR er (fun h hR => ?_)
    exact ko_thrown hq hR k
def cf_250_16 (N : Nat) (X : Nat → Option zz_C) (rc : Nat → Int32 → Int32 → cS → kO) (x1 : Int32) (x2 : Int32) (y0 : Int32) (t : cS) : kO := if y0 = 0 then cf_250_39 N X rc x1 x2 t else cf_250_19 N X rc x1 x2 t
theorem cr_250_16 {X : Nat → Option zz_C} {s : mS} {N : Nat} {d : Nat} (hd : 25 ≤ d) {rc : Nat → Int32 → Int32 → cS → kO} (hrc0 : ∀ {Q : zz_O → zz_H → Prop} {x1 : Int32} {x2 : Int32} {h : zz_H} {t t' : cS} {o : kY}, kR h t s → rc 0 x1 x2 t = some (t', o) → (∀ h', kR h' t' s → kE o Q h') → zz_J zp_P zt_tf zt_fd X d zm_250 2 [(0, .ref 0), (1, .int x1), (2, .int x2)] [] h Q) {Q : zz_O → zz_H → Prop} {x1 : Int32} {x2 : Int32} {y0 : Int32} {h : zz_H} {t t' : cS} {o : kY} (hR : kR h t s) (hf : cf_250_16 N X rc x1 x2 y0 t = some (t', o)) (k : (∀ h', kR h' t' s → kE o Q h')) : zz_J zp_P zt_tf zt_fd X d zm_250 16 [(0, .ref 0), (1, .int x1), (2, .int x2)] [.int y0] h Q := by
  unfold cf_250_16 at hf
  refine cb_250_16 hR  (fun c {h} hR => ?_) (fun c {h} hR => ?_)
  · rw [if_pos c] at hf
    exact cr_250_39 hd hrc0 hR hf k
  · rw [if_neg c] at hf
    exact cr_250_19 hd hrc0 hR hf k
def cf_250_8 (N : Nat) (X : Nat → Option zz_C) (rc : Nat → Int32 → Int32 → cS → kO) (x1 : Int32) (x2 : Int32) (t : cS) : kO := ko_call 3 (cf_138 N X x2 t) (fun g1 v1 => co_i v1 (fun y => cf_250_16 N X rc x1 x2 y g1))
theorem cr_250_8 {X : Nat → Option zz_C} {s : mS} {N : Nat} {d : Nat} (hd : 25 ≤ d) {rc : Nat → Int32 → Int32 → cS → kO} (hrc0 : ∀ {Q : zz_O → zz_H → Prop} {x1 : Int32} {x2 : Int32} {h : zz_H} {t t' : cS} {o : kY}, kR h t s → rc 0 x1 x2 t = some (t', o) → (∀ h', kR h' t' s → kE o Q h') → zz_J zp_P zt_tf zt_fd X d zm_250 2 [(0, .ref 0), (1, .int x1), (2, .int x2)] [] h Q) {Q : zz_O → zz_H → Prop} {x1 : Int32} {x2 : Int32} {h : zz_H} {t t' : cS} {o : kY} (hR : kR h t s) (hf : cf_250_8 N X rc x1 x2 t = some (t', o)) (k : (∀ h', kR h' t' s → kE o Q h')) : zz_J zp_P zt_tf zt_fd X d zm_250 8 [(0, .ref 0), (1, .int x1), (2, .int x2)] [] h Q := by
  unfold cf_250_8 at hf
  obtain ⟨d', rfl⟩ : ∃ d', d = d' + 1 := ⟨d - 1, by omega⟩
  refine cb_250_8 hR  (fun {h} hR => ?_)
  rcases ko_call_ok hf with ⟨g1, v1, er, hf⟩ | ⟨g1, er, hq⟩
  · obtain ⟨y, hv, hf2⟩ := co_i_ok hf
    clear hf
    have hf := hf2
    clear hf2
    subst hv
    refine cr_138 (by omega) hR er (fun h hR => ?_)
    exact cr_250_16 hd hrc0 hR hf k
  · refine cr_138 (by omega) hR er (fun h hR => ?_)
    exact ko_thrown hq hR k
def cf_250_2 (N : Nat) (X : Nat → Option zz_C) (rc : Nat → Int32 → Int32 → cS → kO) (x1 : Int32) (x2 : Int32) (t : cS) : kO := if 8 ≤ x2 then cf_250_45 N X x1 t else cf_250_8 N X rc x1 x2 t
theorem cr_250_2 {X : Nat → Option zz_C} {s : mS} {N : Nat} {d : Nat} (hd : 25 ≤ d) {rc : Nat → Int32 → Int32 → cS → kO} (hrc0 : ∀ {Q : zz_O → zz_H → Prop} {x1 : Int32} {x2 : Int32} {h : zz_H} {t t' : cS} {o : kY}, kR h t s → rc 0 x1 x2 t = some (t', o) → (∀ h', kR h' t' s → kE o Q h') → zz_J zp_P zt_tf zt_fd X d zm_250 2 [(0, .ref 0), (1, .int x1), (2, .int x2)] [] h Q) {Q : zz_O → zz_H → Prop} {x1 : Int32} {x2 : Int32} {h : zz_H} {t t' : cS} {o : kY} (hR : kR h t s) (hf : cf_250_2 N X rc x1 x2 t = some (t', o)) (k : (∀ h', kR h' t' s → kE o Q h')) : zz_J zp_P zt_tf zt_fd X d zm_250 2 [(0, .ref 0), (1, .int x1), (2, .int x2)] [] h Q := by
  unfold cf_250_2 at hf
  refine cb_250_2 hR  (fun c {h} hR => ?_) (fun c {h} hR => ?_)
  · rw [if_pos c] at hf
    exact cr_250_45 hd hR hf k
  · rw [if_neg c] at hf
    exact cr_250_8 hd hrc0 hR hf k
def cf_250_L4 (N : Nat) (X : Nat → Option zz_C) : Nat → Nat → Int32 → Int32 → cS → kO
  | 0, _, _, _, _ => none
  | n + 1, l, x1, x2, t => if l = 0 then cf_250_2 N X (cf_250_L4 N X n) x1 x2 t else none
theorem cr_250_L4 {X : Nat → Option zz_C} {s : mS} {N : Nat} {d : Nat} (hd : 25 ≤ d) : ∀ n : Nat, (∀ {Q : zz_O → zz_H → Prop} {x1 : Int32} {x2 : Int32} {h : zz_H} {t t' : cS} {o : kY}, kR h t s → cf_250_L4 N X n 0 x1 x2 t = some (t', o) → (∀ h', kR h' t' s → kE o Q h') → zz_J zp_P zt_tf zt_fd X d zm_250 2 [(0, .ref 0), (1, .int x1), (2, .int x2)] [] h Q) := by
  intro n
  induction n with
  | zero => exact (fun _ hf _ => by cases hf)
  | succ n ih =>
    have h0 := @ih
    intro Q _ _ h t t' o hR hf k
    unfold cf_250_L4 at hf
    rw [if_pos rfl] at hf
    exact cr_250_2 hd h0 hR hf k
def cf_250_0 (N : Nat) (X : Nat → Option zz_C) (x1 : Int32) (t : cS) : kO := cf_250_L4 N X N 0 x1 0 t
theorem cr_250_0 {X : Nat → Option zz_C} {s : mS} {N : Nat} {d : Nat} (hd : 25 ≤ d) {Q : zz_O → zz_H → Prop} {x1 : Int32} {h : zz_H} {t t' : cS} {o : kY} (hR : kR h t s) (hf : cf_250_0 N X x1 t = some (t', o)) (k : (∀ h', kR h' t' s → kE o Q h')) : zz_J zp_P zt_tf zt_fd X d zm_250 0 [(0, .ref 0), (1, .int x1)] [] h Q := by
  unfold cf_250_0 at hf
  exact cb_250_0 hR  (fun hR => cr_250_L4 hd N hR hf k)
/-- keep -/
def cf_250 (N : Nat) (X : Nat → Option zz_C) (x1 : Int32) (t : cS) : kO := cf_250_0 N X x1 t
theorem cr_250 {X : Nat → Option zz_C} {s : mS} {N : Nat} {d : Nat} (hd : 25 ≤ d) {Q : zz_O → zz_H → Prop} {x1 : Int32} {h : zz_H} {t t' : cS} {o : kY} (hR : kR h t s) (hf : cf_250 N X x1 t = some (t', o)) (k : ∀ h', kR h' t' s → kE o Q h') : zz_J zp_P zt_tf zt_fd X d zm_250 0 [(0, .ref 0), (1, .int x1)] [] h Q := by
  unfold cf_250 at hf
  exact zz_J.weak (cr_250_0 hd hR hf k) rfl ⟨rfl, rfl, trivial⟩
