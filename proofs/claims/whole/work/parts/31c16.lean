/-! yX3_gotOfFold (I)V -/
theorem cb_164_0 {X : Nat → Option zz_C} {h : zz_H} {t : cS} {s : mS} {d : Nat} {Q : zz_O → zz_H → Prop} {x1 : Int32} (hR : kR h t s) (k : ∀ {h : zz_H}, kR h t s → zz_J zp_P zt_tf zt_fd X d zm_166 0 [(0, .ref 49)] [] h (zz_after 3 Q (fun v h' => zz_J zp_P zt_tf zt_fd X (d + 1) zm_164 4 [(0, .ref 49), (1, .int x1)] (v.toList ++ []) h' Q))) : zz_J zp_P zt_tf zt_fd X (d + 1) zm_164 0 [(0, .ref 49), (1, .int x1)] [] h Q := by
  refine zz_J.n 1 rfl rfl rfl ?_
  refine zz_J.cv 4 (as := []) rfl rfl (hR.clO ko_49 (by decide) (by decide)) (by decide) (Nat.le_of_ble_eq_true rfl) (Nat.le_of_ble_eq_true rfl) rfl (Nat.le_of_ble_eq_true rfl) rfl ?_
  refine zz_J.mono (k hR) ?_
  intro o h' hE
  cases o with
  | inl v => exact zz_J.weak hE rfl ⟨rfl, rfl, trivial⟩
  | inr q => exact hE
theorem cb_164_4 {X : Nat → Option zz_C} {h : zz_H} {t : cS} {s : mS} {d : Nat} {Q : zz_O → zz_H → Prop} {x1 : Int32} {y0 : Int64} (hR : kR h t s) (k : ∀ {h : zz_H}, kR h t s → zz_J zp_P zt_tf zt_fd X d zm_166 0 [(0, .ref 49)] [] h (zz_after 3 Q (fun v h' => zz_J zp_P zt_tf zt_fd X (d + 1) zm_164 9 [(0, .ref 49), (1, .int x1), (2, .long y0)] (v.toList ++ []) h' Q))) : zz_J zp_P zt_tf zt_fd X (d + 1) zm_164 4 [(0, .ref 49), (1, .int x1)] [.long y0] h Q := by
  refine zz_J.n 5 rfl rfl rfl ?_
  refine zz_J.n 6 rfl rfl rfl ?_
  refine zz_J.cv 9 (as := []) rfl rfl (hR.clO ko_49 (by decide) (by decide)) (by decide) (Nat.le_of_ble_eq_true rfl) (Nat.le_of_ble_eq_true rfl) rfl (Nat.le_of_ble_eq_true rfl) rfl ?_
  refine zz_J.mono (k hR) ?_
  intro o h' hE
  cases o with
  | inl v => exact zz_J.weak hE rfl ⟨rfl, rfl, rfl, trivial⟩
  | inr q => exact hE
theorem cb_164_9 {X : Nat → Option zz_C} {h : zz_H} {t : cS} {s : mS} {d : Nat} {Q : zz_O → zz_H → Prop} {x1 : Int32} {x2 : Int64} {y0 : Int64} (hR : kR h t s) (k : ∀ {h : zz_H}, kR h t s → zz_J zp_P zt_tf zt_fd X d zm_166 0 [(0, .ref 49)] [] h (zz_after 3 Q (fun v h' => zz_J zp_P zt_tf zt_fd X (d + 1) zm_164 15 [(0, .ref 49), (1, .int x1), (2, .long x2), (4, .long y0)] (v.toList ++ []) h' Q))) : zz_J zp_P zt_tf zt_fd X (d + 1) zm_164 9 [(0, .ref 49), (1, .int x1), (2, .long x2)] [.long y0] h Q := by
  refine zz_J.n 11 rfl rfl rfl ?_
  refine zz_J.n 12 rfl rfl rfl ?_
  refine zz_J.cv 15 (as := []) rfl rfl (hR.clO ko_49 (by decide) (by decide)) (by decide) (Nat.le_of_ble_eq_true rfl) (Nat.le_of_ble_eq_true rfl) rfl (Nat.le_of_ble_eq_true rfl) rfl ?_
  refine zz_J.mono (k hR) ?_
  intro o h' hE
  cases o with
  | inl v => exact zz_J.weak hE rfl ⟨rfl, rfl, rfl, rfl, trivial⟩
  | inr q => exact hE
theorem cb_164_15 {X : Nat → Option zz_C} {h : zz_H} {t : cS} {s : mS} {d : Nat} {Q : zz_O → zz_H → Prop} {x1 : Int32} {x2 : Int64} {x4 : Int64} {y0 : Int64} (hR : kR h t s) (k : ∀ {h : zz_H}, kR h t s → zz_J zp_P zt_tf zt_fd X d zm_166 0 [(0, .ref 49)] [] h (zz_after 3 Q (fun v h' => zz_J zp_P zt_tf zt_fd X (d + 1) zm_164 21 [(0, .ref 49), (1, .int x1), (2, .long x2), (4, .long x4), (6, .long y0)] (v.toList ++ []) h' Q))) : zz_J zp_P zt_tf zt_fd X (d + 1) zm_164 15 [(0, .ref 49), (1, .int x1), (2, .long x2), (4, .long x4)] [.long y0] h Q := by
  refine zz_J.n 17 rfl rfl rfl ?_
  refine zz_J.n 18 rfl rfl rfl ?_
  refine zz_J.cv 21 (as := []) rfl rfl (hR.clO ko_49 (by decide) (by decide)) (by decide) (Nat.le_of_ble_eq_true rfl) (Nat.le_of_ble_eq_true rfl) rfl (Nat.le_of_ble_eq_true rfl) rfl ?_
  refine zz_J.mono (k hR) ?_
  intro o h' hE
  cases o with
  | inl v => exact zz_J.weak hE rfl ⟨rfl, rfl, rfl, rfl, rfl, trivial⟩
  | inr q => exact hE
theorem cb_164_21 {X : Nat → Option zz_C} {h : zz_H} {t : cS} {s : mS} {d : Nat} {Q : zz_O → zz_H → Prop} {x1 : Int32} {x2 : Int64} {x4 : Int64} {x6 : Int64} {y0 : Int64} (hR : kR h t s) (k : ∀ {h : zz_H}, kR h t s → zz_J zp_P zt_tf zt_fd X d zm_165 0 [(0, .ref 49), (1, .long x2)] [] h (zz_after 3 Q (fun v h' => zz_J zp_P zt_tf zt_fd X (d + 1) zm_164 27 [(0, .ref 49), (1, .int x1), (4, .long x4), (6, .long x6)] (v.toList ++ []) h' Q))) : zz_J zp_P zt_tf zt_fd X (d + 1) zm_164 21 [(0, .ref 49), (1, .int x1), (2, .long x2), (4, .long x4), (6, .long x6)] [.long y0] h Q := by
  refine zz_J.n 22 rfl rfl rfl ?_
  refine zz_J.n 23 rfl rfl rfl ?_
  refine zz_J.n 24 rfl rfl rfl ?_
  refine zz_J.cv 27 (as := []) rfl rfl (hR.clO ko_49 (by decide) (by decide)) (by decide) (Nat.le_of_ble_eq_true rfl) (Nat.le_of_ble_eq_true rfl) rfl (Nat.le_of_ble_eq_true rfl) rfl ?_
  refine zz_J.mono (k hR) ?_
  intro o h' hE
  cases o with
  | inl v => exact zz_J.weak hE rfl ⟨rfl, rfl, rfl, rfl, trivial⟩
  | inr q => exact hE
theorem cb_164_27 {X : Nat → Option zz_C} {h : zz_H} {t : cS} {s : mS} {d : Nat} {Q : zz_O → zz_H → Prop} {x1 : Int32} {x4 : Int64} {x6 : Int64} (hR : kR h t s) (k : ∀ {h : zz_H}, kR h t s → zz_J zp_P zt_tf zt_fd X d zm_165 0 [(0, .ref 49), (1, .long x6)] [] h (zz_after 3 Q (fun v h' => zz_J zp_P zt_tf zt_fd X (d + 1) zm_164 33 [(0, .ref 49), (1, .int x1), (4, .long x4)] (v.toList ++ []) h' Q))) : zz_J zp_P zt_tf zt_fd X (d + 1) zm_164 27 [(0, .ref 49), (1, .int x1), (4, .long x4), (6, .long x6)] [] h Q := by
  refine zz_J.n 28 rfl rfl rfl ?_
  refine zz_J.n 30 rfl rfl rfl ?_
  refine zz_J.cv 33 (as := []) rfl rfl (hR.clO ko_49 (by decide) (by decide)) (by decide) (Nat.le_of_ble_eq_true rfl) (Nat.le_of_ble_eq_true rfl) rfl (Nat.le_of_ble_eq_true rfl) rfl ?_
  refine zz_J.mono (k hR) ?_
  intro o h' hE
  cases o with
  | inl v => exact zz_J.weak hE rfl ⟨rfl, rfl, rfl, trivial⟩
  | inr q => exact hE
theorem cb_164_33 {X : Nat → Option zz_C} {h : zz_H} {t : cS} {s : mS} {d : Nat} {Q : zz_O → zz_H → Prop} {x1 : Int32} {x4 : Int64} (hR : kR h t s) (k : ∀ {h : zz_H}, kR h t s → zz_J zp_P zt_tf zt_fd X d zm_256 0 [(0, .long x4)] [] h (zz_after 1000 Q (fun v h' => zz_J zp_P zt_tf zt_fd X (d + 1) zm_164 40 [(0, .ref 49), (1, .int x1)] (v.toList ++ [.int 0, .ref 49]) h' Q))) : zz_J zp_P zt_tf zt_fd X (d + 1) zm_164 33 [(0, .ref 49), (1, .int x1), (4, .long x4)] [] h Q := by
  refine zz_J.n 34 rfl rfl rfl ?_
  refine zz_J.c 35 (.int 0) rfl rfl rfl rfl ?_
  refine zz_J.n 37 rfl rfl rfl ?_
  refine zz_J.cl (M' := zm_256) 40 rfl rfl (by decide) rfl rfl ⟨rfl, Nat.le_of_ble_eq_true rfl⟩ rfl ?_
  refine zz_J.mono (k hR) ?_
  intro o h' hE
  cases o with
  | inl v => exact zz_J.weak hE rfl ⟨rfl, rfl, trivial⟩
  | inr q => exact hE
theorem cb_164_40 {X : Nat → Option zz_C} {h : zz_H} {t : cS} {s : mS} {d : Nat} {Q : zz_O → zz_H → Prop} {x1 : Int32} {y1 : Int32} {y2 : Int32} (hR : kR h t s) (k : ∀ {h : zz_H}, kR h t s → zz_J zp_P zt_tf zt_fd X d zm_253 0 [(0, .int y1), (1, .int (y2 + 1))] [] h (zz_after 1000 Q (fun v h' => zz_J zp_P zt_tf zt_fd X (d + 1) zm_164 45 [(0, .ref 49), (1, .int x1)] (v.toList ++ [.ref 49]) h' Q))) : zz_J zp_P zt_tf zt_fd X (d + 1) zm_164 40 [(0, .ref 49), (1, .int x1)] [.int y2, .int y1, .ref 49] h Q := by
  refine zz_J.c 41 (.int 1) rfl rfl rfl rfl ?_
  refine zz_J.n 42 rfl rfl rfl ?_
  refine zz_J.cl (M' := zm_253) 45 rfl rfl (by decide) rfl rfl ⟨rfl, Nat.le_of_ble_eq_true rfl⟩ rfl ?_
  refine zz_J.mono (k hR) ?_
  intro o h' hE
  cases o with
  | inl v => exact zz_J.weak hE rfl ⟨rfl, rfl, trivial⟩
  | inr q => exact hE
theorem cb_164_45 {X : Nat → Option zz_C} {h : zz_H} {t : cS} {s : mS} {d : Nat} {Q : zz_O → zz_H → Prop} {x1 : Int32} {y1 : Int64} (hR : kR h t s) (k : ∀ {h : zz_H}, kR h t s → zz_J zp_P zt_tf zt_fd X d zm_165 0 [(0, .ref 49), (1, .long y1)] [] h (zz_after 3 Q (fun v h' => zz_J zp_P zt_tf zt_fd X (d + 1) zm_164 48 [(0, .ref 49), (1, .int x1)] (v.toList ++ []) h' Q))) : zz_J zp_P zt_tf zt_fd X (d + 1) zm_164 45 [(0, .ref 49), (1, .int x1)] [.long y1, .ref 49] h Q := by
  refine zz_J.cv 48 (as := []) rfl rfl (hR.clO ko_49 (by decide) (by decide)) (by decide) (Nat.le_of_ble_eq_true rfl) (Nat.le_of_ble_eq_true rfl) rfl (Nat.le_of_ble_eq_true rfl) rfl ?_
  refine zz_J.mono (k hR) ?_
  intro o h' hE
  cases o with
  | inl v => exact zz_J.weak hE rfl ⟨rfl, rfl, trivial⟩
  | inr q => exact hE
theorem cb_164_48 {X : Nat → Option zz_C} {h : zz_H} {t : cS} {s : mS} {d : Nat} {Q : zz_O → zz_H → Prop} {x1 : Int32} (hR : kR h t s) (k : ∀ {h : zz_H}, kR h (jI t 49 17 x1) s → Q (.inl none) h) : zz_J zp_P zt_tf zt_fd X d zm_164 48 [(0, .ref 49), (1, .int x1)] [] h Q := by
  refine zz_J.n 49 rfl rfl rfl ?_
  refine zz_J.n 50 rfl rfl rfl ?_
  obtain ⟨h1, eq1, hR⟩ := hR.pI (x := x1) (by decide) ko_49 (kpi_49_17 _) (Nat.le_of_ble_eq_true rfl) rfl
  refine zz_J.pv 53 rfl eq1 rfl ?_
  clear eq1
  refine zz_J.ret rfl rfl rfl ?_
  exact k hR
def cf_164_48 (N : Nat) (X : Nat → Option zz_C) (x1 : Int32) (t : cS) : kO := some ((jI t 49 17 x1), .inl none)
theorem cr_164_48 {X : Nat → Option zz_C} {s : mS} {N : Nat} {d : Nat} (hd : 10 ≤ d) {Q : zz_O → zz_H → Prop} {x1 : Int32} {h : zz_H} {t t' : cS} {o : kY} (hR : kR h t s) (hf : cf_164_48 N X x1 t = some (t', o)) (k : (∀ h', kR h' t' s → kE o Q h')) : zz_J zp_P zt_tf zt_fd X d zm_164 48 [(0, .ref 49), (1, .int x1)] [] h Q := by
  unfold cf_164_48 at hf
  cases hf
  exact cb_164_48 hR  (fun {h} hR => k h hR)
def cf_164_45 (N : Nat) (X : Nat → Option zz_C) (x1 : Int32) (y1 : Int64) (t : cS) : kO := ko_call 3 (cf_165 N X y1 t) (fun g1 v1 => co_v v1 (cf_164_48 N X x1 g1))
theorem cr_164_45 {X : Nat → Option zz_C} {s : mS} {N : Nat} {d : Nat} (hd : 10 ≤ d) {Q : zz_O → zz_H → Prop} {x1 : Int32} {y1 : Int64} {h : zz_H} {t t' : cS} {o : kY} (hR : kR h t s) (hf : cf_164_45 N X x1 y1 t = some (t', o)) (k : (∀ h', kR h' t' s → kE o Q h')) : zz_J zp_P zt_tf zt_fd X d zm_164 45 [(0, .ref 49), (1, .int x1)] [.long y1, .ref 49] h Q := by
  unfold cf_164_45 at hf
  obtain ⟨d', rfl⟩ : ∃ d', d = d' + 1 := ⟨d - 1, by omega⟩
  refine cb_164_45 hR  (fun {h} hR => ?_)
  rcases ko_call_ok hf with ⟨g1, v1, er, hf⟩ | ⟨g1, er, hq⟩
  · obtain ⟨hv, hf2⟩ := co_v_ok hf
    clear hf
    have hf := hf2
    clear hf2
    subst hv
    refine cr_165 (by omega) hR er (fun h hR => ?_)
    exact cr_164_48 hd hR hf k
  · refine cr_165 (by omega) hR er (fun h hR => ?_)
    exact ko_thrown hq hR k
def cf_164_40 (N : Nat) (X : Nat → Option zz_C) (x1 : Int32) (y1 : Int32) (y2 : Int32) (t : cS) : kO := ko_call 1000 (cf_253 N X y1 (y2 + 1) t) (fun g1 v1 => co_l v1 (fun y => cf_164_45 N X x1 y g1))
theorem cr_164_40 {X : Nat → Option zz_C} {s : mS} {N : Nat} {d : Nat} (hd : 10 ≤ d) {Q : zz_O → zz_H → Prop} {x1 : Int32} {y1 : Int32} {y2 : Int32} {h : zz_H} {t t' : cS} {o : kY} (hR : kR h t s) (hf : cf_164_40 N X x1 y1 y2 t = some (t', o)) (k : (∀ h', kR h' t' s → kE o Q h')) : zz_J zp_P zt_tf zt_fd X d zm_164 40 [(0, .ref 49), (1, .int x1)] [.int y2, .int y1, .ref 49] h Q := by
  unfold cf_164_40 at hf
  obtain ⟨d', rfl⟩ : ∃ d', d = d' + 1 := ⟨d - 1, by omega⟩
  refine cb_164_40 hR  (fun {h} hR => ?_)
  rcases ko_call_ok hf with ⟨g1, v1, er, hf⟩ | ⟨g1, er, hq⟩
  · obtain ⟨y, hv, hf2⟩ := co_l_ok hf
    clear hf
    have hf := hf2
    clear hf2
    subst hv
    refine cr_253 (by omega) hR er (fun h hR => ?_)
    exact cr_164_45 hd hR hf k
  · refine cr_253 (by omega) hR er (fun h hR => ?_)
    exact ko_thrown hq hR k
def cf_164_33 (N : Nat) (X : Nat → Option zz_C) (x1 : Int32) (x4 : Int64) (t : cS) : kO := ko_call 1000 (cf_256 N X x4 t) (fun g1 v1 => co_i v1 (fun y => cf_164_40 N X x1 0 y g1))
theorem cr_164_33 {X : Nat → Option zz_C} {s : mS} {N : Nat} {d : Nat} (hd : 10 ≤ d) {Q : zz_O → zz_H → Prop} {x1 : Int32} {x4 : Int64} {h : zz_H} {t t' : cS} {o : kY} (hR : kR h t s) (hf : cf_164_33 N X x1 x4 t = some (t', o)) (k : (∀ h', kR h' t' s → kE o Q h')) : zz_J zp_P zt_tf zt_fd X d zm_164 33 [(0, .ref 49), (1, .int x1), (4, .long x4)] [] h Q := by
  unfold cf_164_33 at hf
  obtain ⟨d', rfl⟩ : ∃ d', d = d' + 1 := ⟨d - 1, by omega⟩
  refine cb_164_33 hR  (fun {h} hR => ?_)
  rcases ko_call_ok hf with ⟨g1, v1, er, hf⟩ | ⟨g1, er, hq⟩
  · obtain ⟨y, hv, hf2⟩ := co_i_ok hf
    clear hf
    have hf := hf2
    clear hf2
    subst hv
    refine cr_256 (by omega) hR er (fun h hR => ?_)
    exact cr_164_40 hd hR hf k
  · refine cr_256 (by omega) hR er (fun h hR => ?_)
    exact ko_thrown hq hR k
def cf_164_27 (N : Nat) (X : Nat → Option zz_C) (x1 : Int32) (x4 : Int64) (x6 : Int64) (t : cS) : kO := ko_call 3 (cf_165 N X x6 t) (fun g1 v1 => co_v v1 (cf_164_33 N X x1 x4 g1))
theorem cr_164_27 {X : Nat → Option zz_C} {s : mS} {N : Nat} {d : Nat} (hd : 10 ≤ d) {Q : zz_O → zz_H → Prop} {x1 : Int32} {x4 : Int64} {x6 : Int64} {h : zz_H} {t t' : cS} {o : kY} (hR : kR h t s) (hf : cf_164_27 N X x1 x4 x6 t = some (t', o)) (k : (∀ h', kR h' t' s → kE o Q h')) : zz_J zp_P zt_tf zt_fd X d zm_164 27 [(0, .ref 49), (1, .int x1), (4, .long x4), (6, .long x6)] [] h Q := by
  unfold cf_164_27 at hf
  obtain ⟨d', rfl⟩ : ∃ d', d = d' + 1 := ⟨d - 1, by omega⟩
  refine cb_164_27 hR  (fun {h} hR => ?_)
  rcases ko_call_ok hf with ⟨g1, v1, er, hf⟩ | ⟨g1, er, hq⟩
  · obtain ⟨hv, hf2⟩ := co_v_ok hf
    clear hf
    have hf := hf2
    clear hf2
    subst hv
    refine cr_165 (by omega) hR er (fun h hR => ?_)
    exact cr_164_33 hd hR hf k
  · refine cr_165 (by omega) hR er (fun h hR => ?_)
    exact ko_thrown hq hR k
def cf_164_21 (N : Nat) (X : Nat → Option zz_C) (x1 : Int32) (x2 : Int64) (x4 : Int64) (x6 : Int64) (y0 : Int64) (t : cS) : kO := ko_call 3 (cf_165 N X x2 t) (fun g1 v1 => co_v v1 (cf_164_27 N X x1 x4 x6 g1))
theorem cr_164_21 {X : Nat → Option zz_C} {s : mS} {N : Nat} {d : Nat} (hd : 10 ≤ d) {Q : zz_O → zz_H → Prop} {x1 : Int32} {x2 : Int64} {x4 : Int64} {x6 : Int64} {y0 : Int64} {h : zz_H} {t t' : cS} {o : kY} (hR : kR h t s) (hf : cf_164_21 N X x1 x2 x4 x6 y0 t = some (t', o)) (k : (∀ h', kR h' t' s → kE o Q h')) : zz_J zp_P zt_tf zt_fd X d zm_164 21 [(0, .ref 49), (1, .int x1), (2, .long x2), (4, .long x4), (6, .long x6)] [.long y0] h Q := by
  unfold cf_164_21 at hf
  obtain ⟨d', rfl⟩ : ∃ d', d = d' + 1 := ⟨d - 1, by omega⟩
  refine cb_164_21 hR  (fun {h} hR => ?_)
  rcases ko_call_ok hf with ⟨g1, v1, er, hf⟩ | ⟨g1, er, hq⟩
  · obtain ⟨hv, hf2⟩ := co_v_ok hf
    clear hf
    have hf := hf2
    clear hf2
    subst hv
    refine cr_165 (by omega) hR er (fun h hR => ?_)
    exact cr_164_27 hd hR hf k
  · refine cr_165 (by omega) hR er (fun h hR => ?_)
    exact ko_thrown hq hR k
def cf_164_15 (N : Nat) (X : Nat → Option zz_C) (x1 : Int32) (x2 : Int64) (x4 : Int64) (y0 : Int64) (t : cS) : kO := ko_call 3 (cf_166 N X  t) (fun g1 v1 => co_l v1 (fun y => cf_164_21 N X x1 x2 x4 y0 y g1))
theorem cr_164_15 {X : Nat → Option zz_C} {s : mS} {N : Nat} {d : Nat} (hd : 10 ≤ d) {Q : zz_O → zz_H → Prop} {x1 : Int32} {x2 : Int64} {x4 : Int64} {y0 : Int64} {h : zz_H} {t t' : cS} {o : kY} (hR : kR h t s) (hf : cf_164_15 N X x1 x2 x4 y0 t = some (t', o)) (k : (∀ h', kR h' t' s → kE o Q h')) : zz_J zp_P zt_tf zt_fd X d zm_164 15 [(0, .ref 49), (1, .int x1), (2, .long x2), (4, .long x4)] [.long y0] h Q := by
  unfold cf_164_15 at hf
  obtain ⟨d', rfl⟩ : ∃ d', d = d' + 1 := ⟨d - 1, by omega⟩
  refine cb_164_15 hR  (fun {h} hR => ?_)
  rcases ko_call_ok hf with ⟨g1, v1, er, hf⟩ | ⟨g1, er, hq⟩
  · obtain ⟨y, hv, hf2⟩ := co_l_ok hf
    clear hf
    have hf := hf2
    clear hf2
    subst hv
    refine cr_166 (by omega) hR er (fun h hR => ?_)
    exact cr_164_21 hd hR hf k
  · refine cr_166 (by omega) hR er (fun h hR => ?_)
    exact ko_thrown hq hR k
def cf_164_9 (N : Nat) (X : Nat → Option zz_C) (x1 : Int32) (x2 : Int64) (y0 : Int64) (t : cS) : kO := ko_call 3 (cf_166 N X  t) (fun g1 v1 => co_l v1 (fun y => cf_164_15 N X x1 x2 y0 y g1))
theorem cr_164_9 {X : Nat → Option zz_C} {s : mS} {N : Nat} {d : Nat} (hd : 10 ≤ d) {Q : zz_O → zz_H → Prop} {x1 : Int32} {x2 : Int64} {y0 : Int64} {h : zz_H} {t t' : cS} {o : kY} (hR : kR h t s) (hf : cf_164_9 N X x1 x2 y0 t = some (t', o)) (k : (∀ h', kR h' t' s → kE o Q h')) : zz_J zp_P zt_tf zt_fd X d zm_164 9 [(0, .ref 49), (1, .int x1), (2, .long x2)] [.long y0] h Q := by
  unfold cf_164_9 at hf
  obtain ⟨d', rfl⟩ : ∃ d', d = d' + 1 := ⟨d - 1, by omega⟩
  refine cb_164_9 hR  (fun {h} hR => ?_)
  rcases ko_call_ok hf with ⟨g1, v1, er, hf⟩ | ⟨g1, er, hq⟩
  · obtain ⟨y, hv, hf2⟩ := co_l_ok hf
    clear hf
    have hf := hf2
    clear hf2
    subst hv
    refine cr_166 (by omega) hR er (fun h hR => ?_)
    exact cr_164_15 hd hR hf k
  · refine cr_166 (by omega) hR er (fun h hR => ?_)
    exact ko_thrown hq hR k
def cf_164_4 (N : Nat) (X : Nat → Option zz_C) (x1 : Int32) (y0 : Int64) (t : cS) : kO := ko_call 3 (cf_166 N X  t) (fun g1 v1 => co_l v1 (fun y => cf_164_9 N X x1 y0 y g1))
theorem cr_164_4 {X : Nat → Option zz_C} {s : mS} {N : Nat} {d : Nat} (hd : 10 ≤ d) {Q : zz_O → zz_H → Prop} {x1 : Int32} {y0 : Int64} {h : zz_H} {t t' : cS} {o : kY} (hR : kR h t s) (hf : cf_164_4 N X x1 y0 t = some (t', o)) (k : (∀ h', kR h' t' s → kE o Q h')) : zz_J zp_P zt_tf zt_fd X d zm_164 4 [(0, .ref 49), (1, .int x1)] [.long y0] h Q := by
  unfold cf_164_4 at hf
  obtain ⟨d', rfl⟩ : ∃ d', d = d' + 1 := ⟨d - 1, by omega⟩
  refine cb_164_4 hR  (fun {h} hR => ?_)
  rcases ko_call_ok hf with ⟨g1, v1, er, hf⟩ | ⟨g1, er, hq⟩
  · obtain ⟨y, hv, hf2⟩ := co_l_ok hf
    clear hf
    have hf := hf2
    clear hf2
    subst hv
    refine cr_166 (by omega) hR er (fun h hR => ?_)
    exact cr_164_9 hd hR hf k
  · refine cr_166 (by omega) hR er (fun h hR => ?_)
    exact ko_thrown hq hR k
def cf_164_0 (N : Nat) (X : Nat → Option zz_C) (x1 : Int32) (t : cS) : kO := ko_call 3 (cf_166 N X  t) (fun g1 v1 => co_l v1 (fun y => cf_164_4 N X x1 y g1))
theorem cr_164_0 {X : Nat → Option zz_C} {s : mS} {N : Nat} {d : Nat} (hd : 10 ≤ d) {Q : zz_O → zz_H → Prop} {x1 : Int32} {h : zz_H} {t t' : cS} {o : kY} (hR : kR h t s) (hf : cf_164_0 N X x1 t = some (t', o)) (k : (∀ h', kR h' t' s → kE o Q h')) : zz_J zp_P zt_tf zt_fd X d zm_164 0 [(0, .ref 49), (1, .int x1)] [] h Q := by
  unfold cf_164_0 at hf
  obtain ⟨d', rfl⟩ : ∃ d', d = d' + 1 := ⟨d - 1, by omega⟩
  refine cb_164_0 hR  (fun {h} hR => ?_)
  rcases ko_call_ok hf with ⟨g1, v1, er, hf⟩ | ⟨g1, er, hq⟩
  · obtain ⟨y, hv, hf2⟩ := co_l_ok hf
    clear hf
    have hf := hf2
    clear hf2
    subst hv
    refine cr_166 (by omega) hR er (fun h hR => ?_)
    exact cr_164_4 hd hR hf k
  · refine cr_166 (by omega) hR er (fun h hR => ?_)
    exact ko_thrown hq hR k
/-- gotOfFold -/
def cf_164 (N : Nat) (X : Nat → Option zz_C) (x1 : Int32) (t : cS) : kO := cf_164_0 N X x1 t
theorem cr_164 {X : Nat → Option zz_C} {s : mS} {N : Nat} {d : Nat} (hd : 10 ≤ d) {Q : zz_O → zz_H → Prop} {x1 : Int32} {h : zz_H} {t t' : cS} {o : kY} (hR : kR h t s) (hf : cf_164 N X x1 t = some (t', o)) (k : ∀ h', kR h' t' s → kE o Q h') : zz_J zp_P zt_tf zt_fd X d zm_164 0 [(0, .ref 49), (1, .int x1)] [] h Q := by
  unfold cf_164 at hf
  exact zz_J.weak (cr_164_0 hd hR hf k) rfl ⟨rfl, rfl, trivial⟩
/-! yX8_rowAt (JI)J -/
theorem cb_229_0 {X : Nat → Option zz_C} {h : zz_H} {t : cS} {s : mS} {d : Nat} {Q : zz_O → zz_H → Prop} {x1 : Int64} {x3 : Int32} (hR : kR h t s) (k : ∀ {h : zz_H}, kR h t s → zz_J zp_P zt_tf zt_fd X d zm_255 0 [(0, .long x1)] [] h (zz_after 1000 Q (fun v h' => zz_J zp_P zt_tf zt_fd X (d + 1) zm_229 4 [(0, .ref 58), (1, .long x1), (3, .int x3)] (v.toList ++ []) h' Q))) : zz_J zp_P zt_tf zt_fd X (d + 1) zm_229 0 [(0, .ref 58), (1, .long x1), (3, .int x3)] [] h Q := by
  refine zz_J.n 1 rfl rfl rfl ?_
  refine zz_J.cl (M' := zm_255) 4 rfl rfl (by decide) rfl rfl ⟨rfl, Nat.le_of_ble_eq_true rfl⟩ rfl ?_
  refine zz_J.mono (k hR) ?_
  intro o h' hE
  cases o with
  | inl v => exact zz_J.weak hE rfl ⟨rfl, rfl, rfl, trivial⟩
  | inr q => exact hE
theorem cb_229_4 {X : Nat → Option zz_C} {h : zz_H} {t : cS} {s : mS} {d : Nat} {Q : zz_O → zz_H → Prop} {x1 : Int64} {x3 : Int32} {y0 : Int32} (hR : kR h t s) (k1 : ¬ y0 = 2 → (∀ {h : zz_H}, kR h t s → zz_J zp_P zt_tf zt_fd X d zm_229 20 [(1, .long x1)] [] h Q)) (k2 : ¬ ¬ y0 = 2 → (∀ {h : zz_H}, kR h t s → zz_J zp_P zt_tf zt_fd X d zm_229 8 [(0, .ref 58), (1, .long x1), (3, .int x3)] [] h Q)) : zz_J zp_P zt_tf zt_fd X d zm_229 4 [(0, .ref 58), (1, .long x1), (3, .int x3)] [.int y0] h Q := by
  refine zz_J.c 5 (.int 2) rfl rfl rfl rfl ?_
  refine zz_J.b2 20 8 (A := ¬ y0 = 2) rfl (zz_cond_ne _ _) (by decide) rfl rfl (fun c => ?_) (fun c => ?_)
  · exact zz_J.weak (k1 c hR) rfl ⟨rfl, trivial⟩
  · exact zz_J.weak (k2 c hR) rfl ⟨rfl, rfl, rfl, trivial⟩
theorem cb_229_8 {X : Nat → Option zz_C} {h : zz_H} {t : cS} {s : mS} {d : Nat} {Q : zz_O → zz_H → Prop} {x1 : Int64} {x3 : Int32} (hR : kR h t s) (k : ∀ {h : zz_H}, kR h t s → zz_J zp_P zt_tf zt_fd X d zm_129 0 [(0, .ref 42), (1, .long x1), (3, .int x3)] [] h (zz_after 2 Q (fun v h' => zz_J zp_P zt_tf zt_fd X (d + 1) zm_229 17 [] (v.toList ++ []) h' Q))) : zz_J zp_P zt_tf zt_fd X (d + 1) zm_229 8 [(0, .ref 58), (1, .long x1), (3, .int x3)] [] h Q := by
  refine zz_J.n 9 rfl rfl rfl ?_
  refine zz_J.g 12 rfl (hR.gv (v := .ref 42) ko_58 (by decide) rfl) rfl ?_
  refine zz_J.n 13 rfl rfl rfl ?_
  refine zz_J.n 14 rfl rfl rfl ?_
  refine zz_J.cv 17 (as := []) rfl rfl (hR.clO ko_42 (by decide) (by decide)) (by decide) (Nat.le_of_ble_eq_true rfl) (Nat.le_of_ble_eq_true rfl) rfl (Nat.le_of_ble_eq_true rfl) rfl ?_
  refine zz_J.mono (k hR) ?_
  intro o h' hE
  cases o with
  | inl v => exact zz_J.weak hE rfl trivial
  | inr q => exact hE
theorem cb_229_17 {X : Nat → Option zz_C} {h : zz_H} {t : cS} {s : mS} {d : Nat} {Q : zz_O → zz_H → Prop} {y0 : Int64} (hR : kR h t s) (k : ∀ {h : zz_H}, kR h t s → zz_J zp_P zt_tf zt_fd X d zm_229 21 [] [.long y0] h Q) : zz_J zp_P zt_tf zt_fd X d zm_229 17 [] [.long y0] h Q := by
  refine zz_J.n 21 rfl rfl rfl ?_
  exact zz_J.weak (k hR) rfl trivial
theorem cb_229_20 {X : Nat → Option zz_C} {h : zz_H} {t : cS} {s : mS} {d : Nat} {Q : zz_O → zz_H → Prop} {x1 : Int64} (hR : kR h t s) (k : ∀ {h : zz_H}, kR h t s → zz_J zp_P zt_tf zt_fd X d zm_229 21 [] [.long x1] h Q) : zz_J zp_P zt_tf zt_fd X d zm_229 20 [(1, .long x1)] [] h Q := by
  refine zz_J.n 21 rfl rfl rfl ?_
  exact zz_J.weak (k hR) rfl trivial
theorem cb_229_21 {X : Nat → Option zz_C} {h : zz_H} {t : cS} {s : mS} {d : Nat} {Q : zz_O → zz_H → Prop} {y0 : Int64} (hR : kR h t s) (k : ∀ {h : zz_H}, kR h t s → Q (.inl (some (.long y0))) h) : zz_J zp_P zt_tf zt_fd X d zm_229 21 [] [.long y0] h Q := by
  refine zz_J.ret rfl rfl rfl ?_
  exact k hR
def cf_229_21 (N : Nat) (X : Nat → Option zz_C) (y0 : Int64) (t : cS) : kO := some (t, .inl (some (.long y0)))
theorem cr_229_21 {X : Nat → Option zz_C} {s : mS} {N : Nat} {d : Nat} (hd : 2 ≤ d) {Q : zz_O → zz_H → Prop} {y0 : Int64} {h : zz_H} {t t' : cS} {o : kY} (hR : kR h t s) (hf : cf_229_21 N X y0 t = some (t', o)) (k : (∀ h', kR h' t' s → kE o Q h')) : zz_J zp_P zt_tf zt_fd X d zm_229 21 [] [.long y0] h Q := by
  unfold cf_229_21 at hf
  cases hf
  exact cb_229_21 hR  (fun {h} hR => k h hR)
def cf_229_20 (N : Nat) (X : Nat → Option zz_C) (x1 : Int64) (t : cS) : kO := cf_229_21 N X x1 t
theorem cr_229_20 {X : Nat → Option zz_C} {s : mS} {N : Nat} {d : Nat} (hd : 2 ≤ d) {Q : zz_O → zz_H → Prop} {x1 : Int64} {h : zz_H} {t t' : cS} {o : kY} (hR : kR h t s) (hf : cf_229_20 N X x1 t = some (t', o)) (k : (∀ h', kR h' t' s → kE o Q h')) : zz_J zp_P zt_tf zt_fd X d zm_229 20 [(1, .long x1)] [] h Q := by
  unfold cf_229_20 at hf
  exact cb_229_20 hR  (fun hR => cr_229_21 hd hR hf k)
def cf_229_17 (N : Nat) (X : Nat → Option zz_C) (y0 : Int64) (t : cS) : kO := cf_229_21 N X y0 t
theorem cr_229_17 {X : Nat → Option zz_C} {s : mS} {N : Nat} {d : Nat} (hd : 2 ≤ d) {Q : zz_O → zz_H → Prop} {y0 : Int64} {h : zz_H} {t t' : cS} {o : kY} (hR : kR h t s) (hf : cf_229_17 N X y0 t = some (t', o)) (k : (∀ h', kR h' t' s → kE o Q h')) : zz_J zp_P zt_tf zt_fd X d zm_229 17 [] [.long y0] h Q := by
  unfold cf_229_17 at hf
  exact cb_229_17 hR  (fun hR => cr_229_21 hd hR hf k)
def cf_229_8 (N : Nat) (X : Nat → Option zz_C) (x1 : Int64) (x3 : Int32) (t : cS) : kO := ko_call 2 (cf_129 N X x1 x3 t) (fun g1 v1 => co_l v1 (fun y => cf_229_17 N X y g1))
theorem cr_229_8 {X : Nat → Option zz_C} {s : mS} {N : Nat} {d : Nat} (hd : 2 ≤ d) {Q : zz_O → zz_H → Prop} {x1 : Int64} {x3 : Int32} {h : zz_H} {t t' : cS} {o : kY} (hR : kR h t s) (hf : cf_229_8 N X x1 x3 t = some (t', o)) (k : (∀ h', kR h' t' s → kE o Q h')) : zz_J zp_P zt_tf zt_fd X d zm_229 8 [(0, .ref 58), (1, .long x1), (3, .int x3)] [] h Q := by
  unfold cf_229_8 at hf
  obtain ⟨d', rfl⟩ : ∃ d', d = d' + 1 := ⟨d - 1, by omega⟩
  refine cb_229_8 hR  (fun {h} hR => ?_)
  rcases ko_call_ok hf with ⟨g1, v1, er, hf⟩ | ⟨g1, er, hq⟩
  · obtain ⟨y, hv, hf2⟩ := co_l_ok hf
    clear hf
    have hf := hf2
    clear hf2
    subst hv
    refine cr_129 (by omega) hR er (fun h hR => ?_)
    exact cr_229_17 hd hR hf k
  · refine cr_129 (by omega) hR er (fun h hR => ?_)
    exact ko_thrown hq hR k
def cf_229_4 (N : Nat) (X : Nat → Option zz_C) (x1 : Int64) (x3 : Int32) (y0 : Int32) (t : cS) : kO := if ¬ y0 = 2 then cf_229_20 N X x1 t else cf_229_8 N X x1 x3 t
theorem cr_229_4 {X : Nat → Option zz_C} {s : mS} {N : Nat} {d : Nat} (hd : 2 ≤ d) {Q : zz_O → zz_H → Prop} {x1 : Int64} {x3 : Int32} {y0 : Int32} {h : zz_H} {t t' : cS} {o : kY} (hR : kR h t s) (hf : cf_229_4 N X x1 x3 y0 t = some (t', o)) (k : (∀ h', kR h' t' s → kE o Q h')) : zz_J zp_P zt_tf zt_fd X d zm_229 4 [(0, .ref 58), (1, .long x1), (3, .int x3)] [.int y0] h Q := by
  unfold cf_229_4 at hf
  refine cb_229_4 hR  (fun c {h} hR => ?_) (fun c {h} hR => ?_)
  · rw [if_pos c] at hf
    exact cr_229_20 hd hR hf k
  · rw [if_neg c] at hf
    exact cr_229_8 hd hR hf k
def cf_229_0 (N : Nat) (X : Nat → Option zz_C) (x1 : Int64) (x3 : Int32) (t : cS) : kO := ko_call 1000 (cf_255 N X x1 t) (fun g1 v1 => co_i v1 (fun y => cf_229_4 N X x1 x3 y g1))
theorem cr_229_0 {X : Nat → Option zz_C} {s : mS} {N : Nat} {d : Nat} (hd : 2 ≤ d) {Q : zz_O → zz_H → Prop} {x1 : Int64} {x3 : Int32} {h : zz_H} {t t' : cS} {o : kY} (hR : kR h t s) (hf : cf_229_0 N X x1 x3 t = some (t', o)) (k : (∀ h', kR h' t' s → kE o Q h')) : zz_J zp_P zt_tf zt_fd X d zm_229 0 [(0, .ref 58), (1, .long x1), (3, .int x3)] [] h Q := by
  unfold cf_229_0 at hf
  obtain ⟨d', rfl⟩ : ∃ d', d = d' + 1 := ⟨d - 1, by omega⟩
  refine cb_229_0 hR  (fun {h} hR => ?_)
  rcases ko_call_ok hf with ⟨g1, v1, er, hf⟩ | ⟨g1, er, hq⟩
  · obtain ⟨y, hv, hf2⟩ := co_i_ok hf
    clear hf
    have hf := hf2
    clear hf2
    subst hv
    refine cr_255 (by omega) hR er (fun h hR => ?_)
    exact cr_229_4 hd hR hf k
  · refine cr_255 (by omega) hR er (fun h hR => ?_)
    exact ko_thrown hq hR k
/-- rowAt -/
def cf_229 (N : Nat) (X : Nat → Option zz_C) (x1 : Int64) (x3 : Int32) (t : cS) : kO := cf_229_0 N X x1 x3 t
theorem cr_229 {X : Nat → Option zz_C} {s : mS} {N : Nat} {d : Nat} (hd : 2 ≤ d) {Q : zz_O → zz_H → Prop} {x1 : Int64} {x3 : Int32} {h : zz_H} {t t' : cS} {o : kY} (hR : kR h t s) (hf : cf_229 N X x1 x3 t = some (t', o)) (k : ∀ h', kR h' t' s → kE o Q h') : zz_J zp_P zt_tf zt_fd X d zm_229 0 [(0, .ref 58), (1, .long x1), (3, .int x3)] [] h Q := by
  unfold cf_229 at hf
  exact zz_J.weak (cr_229_0 hd hR hf k) rfl ⟨rfl, rfl, rfl, trivial⟩
/-! yX8_unlike (JJ)Z -/
theorem cb_226_0 {X : Nat → Option zz_C} {h : zz_H} {t : cS} {s : mS} {d : Nat} {Q : zz_O → zz_H → Prop} {x1 : Int64} {x3 : Int64} (hR : kR h t s) (k : ∀ {h : zz_H}, kR h t s → zz_J zp_P zt_tf zt_fd X d zm_255 0 [(0, .long x1)] [] h (zz_after 1000 Q (fun v h' => zz_J zp_P zt_tf zt_fd X (d + 1) zm_226 4 [(0, .ref 58), (1, .long x1), (3, .long x3)] (v.toList ++ []) h' Q))) : zz_J zp_P zt_tf zt_fd X (d + 1) zm_226 0 [(0, .ref 58), (1, .long x1), (3, .long x3)] [] h Q := by
  refine zz_J.n 1 rfl rfl rfl ?_
  refine zz_J.cl (M' := zm_255) 4 rfl rfl (by decide) rfl rfl ⟨rfl, Nat.le_of_ble_eq_true rfl⟩ rfl ?_
  refine zz_J.mono (k hR) ?_
  intro o h' hE
  cases o with
  | inl v => exact zz_J.weak hE rfl ⟨rfl, rfl, rfl, trivial⟩
  | inr q => exact hE
theorem cb_226_4 {X : Nat → Option zz_C} {h : zz_H} {t : cS} {s : mS} {d : Nat} {Q : zz_O → zz_H → Prop} {x1 : Int64} {x3 : Int64} {y0 : Int32} (hR : kR h t s) (k : ∀ {h : zz_H}, kR h t s → zz_J zp_P zt_tf zt_fd X d zm_255 0 [(0, .long x3)] [] h (zz_after 1000 Q (fun v h' => zz_J zp_P zt_tf zt_fd X (d + 1) zm_226 10 [(0, .ref 58), (1, .long x1), (3, .long x3), (5, .int y0)] (v.toList ++ []) h' Q))) : zz_J zp_P zt_tf zt_fd X (d + 1) zm_226 4 [(0, .ref 58), (1, .long x1), (3, .long x3)] [.int y0] h Q := by
  refine zz_J.n 6 rfl rfl rfl ?_
  refine zz_J.n 7 rfl rfl rfl ?_
  refine zz_J.cl (M' := zm_255) 10 rfl rfl (by decide) rfl rfl ⟨rfl, Nat.le_of_ble_eq_true rfl⟩ rfl ?_
  refine zz_J.mono (k hR) ?_
  intro o h' hE
  cases o with
  | inl v => exact zz_J.weak hE rfl ⟨rfl, rfl, rfl, rfl, trivial⟩
  | inr q => exact hE
theorem cb_226_10 {X : Nat → Option zz_C} {h : zz_H} {t : cS} {s : mS} {d : Nat} {Q : zz_O → zz_H → Prop} {x1 : Int64} {x3 : Int64} {x5 : Int32} {y0 : Int32} (hR : kR h t s) (k1 : x5 = 0 → (∀ {h : zz_H}, kR h t s → zz_J zp_P zt_tf zt_fd X d zm_226 22 [] [] h Q)) (k2 : ¬ x5 = 0 → (∀ {h : zz_H}, kR h t s → zz_J zp_P zt_tf zt_fd X d zm_226 17 [(0, .ref 58), (1, .long x1), (3, .long x3), (5, .int x5), (6, .int y0)] [] h Q)) : zz_J zp_P zt_tf zt_fd X d zm_226 10 [(0, .ref 58), (1, .long x1), (3, .long x3), (5, .int x5)] [.int y0] h Q := by
  refine zz_J.n 12 rfl rfl rfl ?_
  refine zz_J.n 14 rfl rfl rfl ?_
  refine zz_J.b1 22 17 (A := x5 = 0) rfl rfl (by decide) rfl rfl (fun c => ?_) (fun c => ?_)
  · exact zz_J.weak (k1 c hR) rfl trivial
  · exact zz_J.weak (k2 c hR) rfl ⟨rfl, rfl, rfl, rfl, rfl, trivial⟩
theorem cb_226_17 {X : Nat → Option zz_C} {h : zz_H} {t : cS} {s : mS} {d : Nat} {Q : zz_O → zz_H → Prop} {x1 : Int64} {x3 : Int64} {x5 : Int32} {x6 : Int32} (hR : kR h t s) (k1 : ¬ x6 = 0 → (∀ {h : zz_H}, kR h t s → zz_J zp_P zt_tf zt_fd X d zm_226 24 [(0, .ref 58), (1, .long x1), (3, .long x3), (5, .int x5), (6, .int x6)] [] h Q)) (k2 : ¬ ¬ x6 = 0 → (∀ {h : zz_H}, kR h t s → zz_J zp_P zt_tf zt_fd X d zm_226 22 [] [] h Q)) : zz_J zp_P zt_tf zt_fd X d zm_226 17 [(0, .ref 58), (1, .long x1), (3, .long x3), (5, .int x5), (6, .int x6)] [] h Q := by
  refine zz_J.n 19 rfl rfl rfl ?_
  refine zz_J.b1 24 22 (A := ¬ x6 = 0) rfl (zz_cond_ne _ _) (by decide) rfl rfl (fun c => ?_) (fun c => ?_)
  · exact zz_J.weak (k1 c hR) rfl ⟨rfl, rfl, rfl, rfl, rfl, trivial⟩
  · exact zz_J.weak (k2 c hR) rfl trivial
theorem cb_226_22 {X : Nat → Option zz_C} {h : zz_H} {t : cS} {s : mS} {d : Nat} {Q : zz_O → zz_H → Prop}  (hR : kR h t s) (k : ∀ {h : zz_H}, kR h t s → Q (.inl (some (.int 0))) h) : zz_J zp_P zt_tf zt_fd X d zm_226 22 [] [] h Q := by
  refine zz_J.c 23 (.int 0) rfl rfl rfl rfl ?_
  refine zz_J.ret rfl rfl rfl ?_
  exact k hR
theorem cb_226_24 {X : Nat → Option zz_C} {h : zz_H} {t : cS} {s : mS} {d : Nat} {Q : zz_O → zz_H → Prop} {x1 : Int64} {x3 : Int64} {x5 : Int32} {x6 : Int32} (hR : kR h t s) (k1 : ¬ x5 = x6 → (∀ {h : zz_H}, kR h t s → zz_J zp_P zt_tf zt_fd X d zm_226 52 [(0, .ref 58), (1, .long x1), (3, .long x3), (5, .int x5), (6, .int x6)] [] h Q)) (k2 : ¬ ¬ x5 = x6 → (∀ {h : zz_H}, kR h t s → zz_J zp_P zt_tf zt_fd X d zm_226 31 [(0, .ref 58), (1, .long x1), (3, .long x3), (5, .int x5), (6, .int x6)] [] h Q)) : zz_J zp_P zt_tf zt_fd X d zm_226 24 [(0, .ref 58), (1, .long x1), (3, .long x3), (5, .int x5), (6, .int x6)] [] h Q := by
  refine zz_J.n 26 rfl rfl rfl ?_
  refine zz_J.n 28 rfl rfl rfl ?_
  refine zz_J.b2 52 31 (A := ¬ x5 = x6) rfl (zz_cond_ne _ _) (by decide) rfl rfl (fun c => ?_) (fun c => ?_)
  · exact zz_J.weak (k1 c hR) rfl ⟨rfl, rfl, rfl, rfl, rfl, trivial⟩
  · exact zz_J.weak (k2 c hR) rfl ⟨rfl, rfl, rfl, rfl, rfl, trivial⟩
theorem cb_226_31 {X : Nat → Option zz_C} {h : zz_H} {t : cS} {s : mS} {d : Nat} {Q : zz_O → zz_H → Prop} {x1 : Int64} {x3 : Int64} {x5 : Int32} {x6 : Int32} (hR : kR h t s) (k : ∀ {h : zz_H}, kR h t s → zz_J zp_P zt_tf zt_fd X d zm_128 0 [(0, .ref 42), (1, .long x1)] [] h (zz_after 2 Q (fun v h' => zz_J zp_P zt_tf zt_fd X (d + 1) zm_226 39 [(0, .ref 58), (1, .long x1), (3, .long x3), (5, .int x5), (6, .int x6)] (v.toList ++ []) h' Q))) : zz_J zp_P zt_tf zt_fd X (d + 1) zm_226 31 [(0, .ref 58), (1, .long x1), (3, .long x3), (5, .int x5), (6, .int x6)] [] h Q := by
  refine zz_J.n 32 rfl rfl rfl ?_
  refine zz_J.g 35 rfl (hR.gv (v := .ref 42) ko_58 (by decide) rfl) rfl ?_
  refine zz_J.n 36 rfl rfl rfl ?_
  refine zz_J.cv 39 (as := []) rfl rfl (hR.clO ko_42 (by decide) (by decide)) (by decide) (Nat.le_of_ble_eq_true rfl) (Nat.le_of_ble_eq_true rfl) rfl (Nat.le_of_ble_eq_true rfl) rfl ?_
  refine zz_J.mono (k hR) ?_
  intro o h' hE
  cases o with
  | inl v => exact zz_J.weak hE rfl ⟨rfl, rfl, rfl, rfl, rfl, trivial⟩
  | inr q => exact hE
theorem cb_226_39 {X : Nat → Option zz_C} {h : zz_H} {t : cS} {s : mS} {d : Nat} {Q : zz_O → zz_H → Prop} {x1 : Int64} {x3 : Int64} {x5 : Int32} {x6 : Int32} {y0 : Int32} (hR : kR h t s) (k : ∀ {h : zz_H}, kR h t s → zz_J zp_P zt_tf zt_fd X d zm_128 0 [(0, .ref 42), (1, .long x3)] [] h (zz_after 2 Q (fun v h' => zz_J zp_P zt_tf zt_fd X (d + 1) zm_226 47 [(0, .ref 58), (1, .long x1), (3, .long x3), (5, .int x5), (6, .int x6)] (v.toList ++ [.int y0]) h' Q))) : zz_J zp_P zt_tf zt_fd X (d + 1) zm_226 39 [(0, .ref 58), (1, .long x1), (3, .long x3), (5, .int x5), (6, .int x6)] [.int y0] h Q := by
  refine zz_J.n 40 rfl rfl rfl ?_
  refine zz_J.g 43 rfl (hR.gv (v := .ref 42) ko_58 (by decide) rfl) rfl ?_
  refine zz_J.n 44 rfl rfl rfl ?_
  refine zz_J.cv 47 (as := [.int y0]) rfl rfl (hR.clO ko_42 (by decide) (by decide)) (by decide) (Nat.le_of_ble_eq_true rfl) (Nat.le_of_ble_eq_true rfl) rfl (Nat.le_of_ble_eq_true rfl) rfl ?_
  refine zz_J.mono (k hR) ?_
  intro o h' hE
  cases o with
  | inl v => exact zz_J.weak hE rfl ⟨rfl, rfl, rfl, rfl, rfl, trivial⟩
  | inr q => exact hE
theorem cb_226_47 {X : Nat → Option zz_C} {h : zz_H} {t : cS} {s : mS} {d : Nat} {Q : zz_O → zz_H → Prop} {x1 : Int64} {x3 : Int64} {x5 : Int32} {x6 : Int32} {y0 : Int32} {y1 : Int32} (hR : kR h t s) (k1 : y0 = y1 → (∀ {h : zz_H}, kR h t s → zz_J zp_P zt_tf zt_fd X d zm_226 52 [(0, .ref 58), (1, .long x1), (3, .long x3), (5, .int x5), (6, .int x6)] [] h Q)) (k2 : ¬ y0 = y1 → (∀ {h : zz_H}, kR h t s → zz_J zp_P zt_tf zt_fd X d zm_226 50 [] [] h Q)) : zz_J zp_P zt_tf zt_fd X d zm_226 47 [(0, .ref 58), (1, .long x1), (3, .long x3), (5, .int x5), (6, .int x6)] [.int y1, .int y0] h Q := by
  refine zz_J.b2 52 50 (A := y0 = y1) rfl rfl (by decide) rfl rfl (fun c => ?_) (fun c => ?_)
  · exact zz_J.weak (k1 c hR) rfl ⟨rfl, rfl, rfl, rfl, rfl, trivial⟩
  · exact zz_J.weak (k2 c hR) rfl trivial
theorem cb_226_50 {X : Nat → Option zz_C} {h : zz_H} {t : cS} {s : mS} {d : Nat} {Q : zz_O → zz_H → Prop}  (hR : kR h t s) (k : ∀ {h : zz_H}, kR h t s → Q (.inl (some (.int 1))) h) : zz_J zp_P zt_tf zt_fd X d zm_226 50 [] [] h Q := by
  refine zz_J.c 51 (.int 1) rfl rfl rfl rfl ?_
  refine zz_J.ret rfl rfl rfl ?_
  exact k hR
theorem cb_226_52 {X : Nat → Option zz_C} {h : zz_H} {t : cS} {s : mS} {d : Nat} {Q : zz_O → zz_H → Prop} {x1 : Int64} {x3 : Int64} {x5 : Int32} {x6 : Int32} (hR : kR h t s) (k1 : ¬ x5 = 2 → (∀ {h : zz_H}, kR h t s → zz_J zp_P zt_tf zt_fd X d zm_226 69 [(0, .ref 58), (1, .long x1), (3, .long x3), (6, .int x6)] [] h Q)) (k2 : ¬ ¬ x5 = 2 → (∀ {h : zz_H}, kR h t s → zz_J zp_P zt_tf zt_fd X d zm_226 58 [(0, .ref 58), (1, .long x1), (3, .long x3)] [] h Q)) : zz_J zp_P zt_tf zt_fd X d zm_226 52 [(0, .ref 58), (1, .long x1), (3, .long x3), (5, .int x5), (6, .int x6)] [] h Q := by
  refine zz_J.n 54 rfl rfl rfl ?_
  refine zz_J.c 55 (.int 2) rfl rfl rfl rfl ?_
  refine zz_J.b2 69 58 (A := ¬ x5 = 2) rfl (zz_cond_ne _ _) (by decide) rfl rfl (fun c => ?_) (fun c => ?_)
  · exact zz_J.weak (k1 c hR) rfl ⟨rfl, rfl, rfl, rfl, trivial⟩
  · exact zz_J.weak (k2 c hR) rfl ⟨rfl, rfl, rfl, trivial⟩
theorem cb_226_58 {X : Nat → Option zz_C} {h : zz_H} {t : cS} {s : mS} {d : Nat} {Q : zz_O → zz_H → Prop} {x1 : Int64} {x3 : Int64} (hR : kR h t s) (k : ∀ {h : zz_H}, kR h t s → zz_J zp_P zt_tf zt_fd X d zm_128 0 [(0, .ref 42), (1, .long x1)] [] h (zz_after 2 Q (fun v h' => zz_J zp_P zt_tf zt_fd X (d + 1) zm_226 66 [(0, .ref 58), (1, .long x1), (3, .long x3)] (v.toList ++ []) h' Q))) : zz_J zp_P zt_tf zt_fd X (d + 1) zm_226 58 [(0, .ref 58), (1, .long x1), (3, .long x3)] [] h Q := by
  refine zz_J.n 59 rfl rfl rfl ?_
  refine zz_J.g 62 rfl (hR.gv (v := .ref 42) ko_58 (by decide) rfl) rfl ?_
  refine zz_J.n 63 rfl rfl rfl ?_
  refine zz_J.cv 66 (as := []) rfl rfl (hR.clO ko_42 (by decide) (by decide)) (by decide) (Nat.le_of_ble_eq_true rfl) (Nat.le_of_ble_eq_true rfl) rfl (Nat.le_of_ble_eq_true rfl) rfl ?_
  refine zz_J.mono (k hR) ?_
  intro o h' hE
  cases o with
  | inl v => exact zz_J.weak hE rfl ⟨rfl, rfl, rfl, trivial⟩
  | inr q => exact hE
theorem cb_226_66 {X : Nat → Option zz_C} {h : zz_H} {t : cS} {s : mS} {d : Nat} {Q : zz_O → zz_H → Prop} {x1 : Int64} {x3 : Int64} {y0 : Int32} (hR : kR h t s) (k : ∀ {h : zz_H}, kR h t s → zz_J zp_P zt_tf zt_fd X d zm_226 87 [(0, .ref 58), (1, .long x1), (3, .long x3)] [.int y0] h Q) : zz_J zp_P zt_tf zt_fd X d zm_226 66 [(0, .ref 58), (1, .long x1), (3, .long x3)] [.int y0] h Q := by
  refine zz_J.n 87 rfl rfl rfl ?_
  exact zz_J.weak (k hR) rfl ⟨rfl, rfl, rfl, trivial⟩
theorem cb_226_69 {X : Nat → Option zz_C} {h : zz_H} {t : cS} {s : mS} {d : Nat} {Q : zz_O → zz_H → Prop} {x1 : Int64} {x3 : Int64} {x6 : Int32} (hR : kR h t s) (k1 : ¬ x6 = 2 → (∀ {h : zz_H}, kR h t s → zz_J zp_P zt_tf zt_fd X d zm_226 86 [(0, .ref 58), (1, .long x1), (3, .long x3)] [] h Q)) (k2 : ¬ ¬ x6 = 2 → (∀ {h : zz_H}, kR h t s → zz_J zp_P zt_tf zt_fd X d zm_226 75 [(0, .ref 58), (1, .long x1), (3, .long x3)] [] h Q)) : zz_J zp_P zt_tf zt_fd X d zm_226 69 [(0, .ref 58), (1, .long x1), (3, .long x3), (6, .int x6)] [] h Q := by
  refine zz_J.n 71 rfl rfl rfl ?_
  refine zz_J.c 72 (.int 2) rfl rfl rfl rfl ?_
  refine zz_J.b2 86 75 (A := ¬ x6 = 2) rfl (zz_cond_ne _ _) (by decide) rfl rfl (fun c => ?_) (fun c => ?_)
  · exact zz_J.weak (k1 c hR) rfl ⟨rfl, rfl, rfl, trivial⟩
  · exact zz_J.weak (k2 c hR) rfl ⟨rfl, rfl, rfl, trivial⟩
theorem cb_226_75 {X : Nat → Option zz_C} {h : zz_H} {t : cS} {s : mS} {d : Nat} {Q : zz_O → zz_H → Prop} {x1 : Int64} {x3 : Int64} (hR : kR h t s) (k : ∀ {h : zz_H}, kR h t s → zz_J zp_P zt_tf zt_fd X d zm_128 0 [(0, .ref 42), (1, .long x3)] [] h (zz_after 2 Q (fun v h' => zz_J zp_P zt_tf zt_fd X (d + 1) zm_226 83 [(0, .ref 58), (1, .long x1), (3, .long x3)] (v.toList ++ []) h' Q))) : zz_J zp_P zt_tf zt_fd X (d + 1) zm_226 75 [(0, .ref 58), (1, .long x1), (3, .long x3)] [] h Q := by
  refine zz_J.n 76 rfl rfl rfl ?_
  refine zz_J.g 79 rfl (hR.gv (v := .ref 42) ko_58 (by decide) rfl) rfl ?_
  refine zz_J.n 80 rfl rfl rfl ?_
  refine zz_J.cv 83 (as := []) rfl rfl (hR.clO ko_42 (by decide) (by decide)) (by decide) (Nat.le_of_ble_eq_true rfl) (Nat.le_of_ble_eq_true rfl) rfl (Nat.le_of_ble_eq_true rfl) rfl ?_
  refine zz_J.mono (k hR) ?_
  intro o h' hE
  cases o with
  | inl v => exact zz_J.weak hE rfl ⟨rfl, rfl, rfl, trivial⟩
  | inr q => exact hE
theorem cb_226_83 {X : Nat → Option zz_C} {h : zz_H} {t : cS} {s : mS} {d : Nat} {Q : zz_O → zz_H → Prop} {x1 : Int64} {x3 : Int64} {y0 : Int32} (hR : kR h t s) (k : ∀ {h : zz_H}, kR h t s → zz_J zp_P zt_tf zt_fd X d zm_226 87 [(0, .ref 58), (1, .long x1), (3, .long x3)] [.int y0] h Q) : zz_J zp_P zt_tf zt_fd X d zm_226 83 [(0, .ref 58), (1, .long x1), (3, .long x3)] [.int y0] h Q := by
  refine zz_J.n 87 rfl rfl rfl ?_
  exact zz_J.weak (k hR) rfl ⟨rfl, rfl, rfl, trivial⟩
theorem cb_226_86 {X : Nat → Option zz_C} {h : zz_H} {t : cS} {s : mS} {d : Nat} {Q : zz_O → zz_H → Prop} {x1 : Int64} {x3 : Int64} (hR : kR h t s) (k : ∀ {h : zz_H}, kR h t s → zz_J zp_P zt_tf zt_fd X d zm_226 87 [(0, .ref 58), (1, .long x1), (3, .long x3)] [.int 0] h Q) : zz_J zp_P zt_tf zt_fd X d zm_226 86 [(0, .ref 58), (1, .long x1), (3, .long x3)] [] h Q := by
  refine zz_J.c 87 (.int 0) rfl rfl rfl rfl ?_
  exact zz_J.weak (k hR) rfl ⟨rfl, rfl, rfl, trivial⟩
theorem cb_226_87 {X : Nat → Option zz_C} {h : zz_H} {t : cS} {s : mS} {d : Nat} {Q : zz_O → zz_H → Prop} {x1 : Int64} {x3 : Int64} {y0 : Int32} (hR : kR h t s) (k : ∀ {h : zz_H}, kR h t s → zz_J zp_P zt_tf zt_fd X d zm_226 95 [(0, .ref 58), (1, .long x1), (3, .long x3), (7, .int y0), (8, .int 0), (9, .int 0)] [] h Q) : zz_J zp_P zt_tf zt_fd X d zm_226 87 [(0, .ref 58), (1, .long x1), (3, .long x3)] [.int y0] h Q := by
  refine zz_J.n 89 rfl rfl rfl ?_
  refine zz_J.c 90 (.int 0) rfl rfl rfl rfl ?_
  refine zz_J.n 92 rfl rfl rfl ?_
  refine zz_J.c 93 (.int 0) rfl rfl rfl rfl ?_
  refine zz_J.n 95 rfl rfl rfl ?_
  exact zz_J.weak (k hR) rfl ⟨rfl, rfl, rfl, rfl, rfl, rfl, trivial⟩
theorem cb_226_95 {X : Nat → Option zz_C} {h : zz_H} {t : cS} {s : mS} {d : Nat} {Q : zz_O → zz_H → Prop} {x1 : Int64} {x3 : Int64} {x7 : Int32} {x8 : Int32} {x9 : Int32} (hR : kR h t s) (k1 : x7 ≤ x9 → (∀ {h : zz_H}, kR h t s → zz_J zp_P zt_tf zt_fd X d zm_226 151 [(8, .int x8)] [] h Q)) (k2 : ¬ x7 ≤ x9 → (∀ {h : zz_H}, kR h t s → zz_J zp_P zt_tf zt_fd X d zm_226 102 [(0, .ref 58), (1, .long x1), (3, .long x3), (7, .int x7), (8, .int x8), (9, .int x9)] [] h Q)) : zz_J zp_P zt_tf zt_fd X d zm_226 95 [(0, .ref 58), (1, .long x1), (3, .long x3), (7, .int x7), (8, .int x8), (9, .int x9)] [] h Q := by
  refine zz_J.n 97 rfl rfl rfl ?_
  refine zz_J.n 99 rfl rfl rfl ?_
  refine zz_J.b2 151 102 (A := x7 ≤ x9) rfl rfl (by decide) rfl rfl (fun c => ?_) (fun c => ?_)
  · exact zz_J.weak (k1 c hR) rfl ⟨rfl, trivial⟩
  · exact zz_J.weak (k2 c hR) rfl ⟨rfl, rfl, rfl, rfl, rfl, rfl, trivial⟩
theorem cb_226_102 {X : Nat → Option zz_C} {h : zz_H} {t : cS} {s : mS} {d : Nat} {Q : zz_O → zz_H → Prop} {x1 : Int64} {x3 : Int64} {x7 : Int32} {x8 : Int32} {x9 : Int32} (hR : kR h t s) (k1 : ¬ x8 = 0 → (∀ {h : zz_H}, kR h t s → zz_J zp_P zt_tf zt_fd X d zm_226 151 [(8, .int x8)] [] h Q)) (k2 : ¬ ¬ x8 = 0 → (∀ {h : zz_H}, kR h t s → zz_J zp_P zt_tf zt_fd X d zm_226 107 [(0, .ref 58), (1, .long x1), (3, .long x3), (7, .int x7), (9, .int x9)] [] h Q)) : zz_J zp_P zt_tf zt_fd X d zm_226 102 [(0, .ref 58), (1, .long x1), (3, .long x3), (7, .int x7), (8, .int x8), (9, .int x9)] [] h Q := by
  refine zz_J.n 104 rfl rfl rfl ?_
  refine zz_J.b1 151 107 (A := ¬ x8 = 0) rfl (zz_cond_ne _ _) (by decide) rfl rfl (fun c => ?_) (fun c => ?_)
  · exact zz_J.weak (k1 c hR) rfl ⟨rfl, trivial⟩
  · exact zz_J.weak (k2 c hR) rfl ⟨rfl, rfl, rfl, rfl, rfl, trivial⟩
theorem cb_226_107 {X : Nat → Option zz_C} {h : zz_H} {t : cS} {s : mS} {d : Nat} {Q : zz_O → zz_H → Prop} {x1 : Int64} {x3 : Int64} {x7 : Int32} {x9 : Int32} (hR : kR h t s) (k : ∀ {h : zz_H}, kR h t s → zz_J zp_P zt_tf zt_fd X d zm_229 0 [(0, .ref 58), (1, .long x1), (3, .int x9)] [] h (zz_after 8 Q (fun v h' => zz_J zp_P zt_tf zt_fd X (d + 1) zm_226 118 [(0, .ref 58), (1, .long x1), (3, .long x3), (7, .int x7), (9, .int x9)] (v.toList ++ [.ref 42]) h' Q))) : zz_J zp_P zt_tf zt_fd X (d + 1) zm_226 107 [(0, .ref 58), (1, .long x1), (3, .long x3), (7, .int x7), (9, .int x9)] [] h Q := by
  refine zz_J.n 108 rfl rfl rfl ?_
  refine zz_J.g 111 rfl (hR.gv (v := .ref 42) ko_58 (by decide) rfl) rfl ?_
  refine zz_J.n 112 rfl rfl rfl ?_
  refine zz_J.n 113 rfl rfl rfl ?_
  refine zz_J.n 115 rfl rfl rfl ?_
  refine zz_J.cv 118 (as := [.ref 42]) rfl rfl (hR.clO ko_58 (by decide) (by decide)) (by decide) (Nat.le_of_ble_eq_true rfl) (Nat.le_of_ble_eq_true rfl) rfl (Nat.le_of_ble_eq_true rfl) rfl ?_
  refine zz_J.mono (k hR) ?_
  intro o h' hE
  cases o with
  | inl v => exact zz_J.weak hE rfl ⟨rfl, rfl, rfl, rfl, rfl, trivial⟩
  | inr q => exact hE
theorem cb_226_118 {X : Nat → Option zz_C} {h : zz_H} {t : cS} {s : mS} {d : Nat} {Q : zz_O → zz_H → Prop} {x1 : Int64} {x3 : Int64} {x7 : Int32} {x9 : Int32} {y1 : Int64} (hR : kR h t s) (k : ∀ {h : zz_H}, kR h t s → zz_J zp_P zt_tf zt_fd X d zm_128 0 [(0, .ref 42), (1, .long y1)] [] h (zz_after 2 Q (fun v h' => zz_J zp_P zt_tf zt_fd X (d + 1) zm_226 121 [(0, .ref 58), (1, .long x1), (3, .long x3), (7, .int x7), (9, .int x9)] (v.toList ++ []) h' Q))) : zz_J zp_P zt_tf zt_fd X (d + 1) zm_226 118 [(0, .ref 58), (1, .long x1), (3, .long x3), (7, .int x7), (9, .int x9)] [.long y1, .ref 42] h Q := by
  refine zz_J.cv 121 (as := []) rfl rfl (hR.clO ko_42 (by decide) (by decide)) (by decide) (Nat.le_of_ble_eq_true rfl) (Nat.le_of_ble_eq_true rfl) rfl (Nat.le_of_ble_eq_true rfl) rfl ?_
  refine zz_J.mono (k hR) ?_
  intro o h' hE
  cases o with
  | inl v => exact zz_J.weak hE rfl ⟨rfl, rfl, rfl, rfl, rfl, trivial⟩
  | inr q => exact hE
theorem cb_226_121 {X : Nat → Option zz_C} {h : zz_H} {t : cS} {s : mS} {d : Nat} {Q : zz_O → zz_H → Prop} {x1 : Int64} {x3 : Int64} {x7 : Int32} {x9 : Int32} {y0 : Int32} (hR : kR h t s) (k : ∀ {h : zz_H}, kR h t s → zz_J zp_P zt_tf zt_fd X d zm_229 0 [(0, .ref 58), (1, .long x3), (3, .int x9)] [] h (zz_after 8 Q (fun v h' => zz_J zp_P zt_tf zt_fd X (d + 1) zm_226 132 [(0, .ref 58), (1, .long x1), (3, .long x3), (7, .int x7), (9, .int x9)] (v.toList ++ [.ref 42, .int y0]) h' Q))) : zz_J zp_P zt_tf zt_fd X (d + 1) zm_226 121 [(0, .ref 58), (1, .long x1), (3, .long x3), (7, .int x7), (9, .int x9)] [.int y0] h Q := by
  refine zz_J.n 122 rfl rfl rfl ?_
  refine zz_J.g 125 rfl (hR.gv (v := .ref 42) ko_58 (by decide) rfl) rfl ?_
  refine zz_J.n 126 rfl rfl rfl ?_
  refine zz_J.n 127 rfl rfl rfl ?_
  refine zz_J.n 129 rfl rfl rfl ?_
  refine zz_J.cv 132 (as := [.ref 42, .int y0]) rfl rfl (hR.clO ko_58 (by decide) (by decide)) (by decide) (Nat.le_of_ble_eq_true rfl) (Nat.le_of_ble_eq_true rfl) rfl (Nat.le_of_ble_eq_true rfl) rfl ?_
  refine zz_J.mono (k hR) ?_
  intro o h' hE
  cases o with
  | inl v => exact zz_J.weak hE rfl ⟨rfl, rfl, rfl, rfl, rfl, trivial⟩
  | inr q => exact hE
theorem cb_226_132 {X : Nat → Option zz_C} {h : zz_H} {t : cS} {s : mS} {d : Nat} {Q : zz_O → zz_H → Prop} {x1 : Int64} {x3 : Int64} {x7 : Int32} {x9 : Int32} {y0 : Int32} {y2 : Int64} (hR : kR h t s) (k : ∀ {h : zz_H}, kR h t s → zz_J zp_P zt_tf zt_fd X d zm_128 0 [(0, .ref 42), (1, .long y2)] [] h (zz_after 2 Q (fun v h' => zz_J zp_P zt_tf zt_fd X (d + 1) zm_226 135 [(0, .ref 58), (1, .long x1), (3, .long x3), (7, .int x7), (9, .int x9)] (v.toList ++ [.int y0]) h' Q))) : zz_J zp_P zt_tf zt_fd X (d + 1) zm_226 132 [(0, .ref 58), (1, .long x1), (3, .long x3), (7, .int x7), (9, .int x9)] [.long y2, .ref 42, .int y0] h Q := by
  refine zz_J.cv 135 (as := [.int y0]) rfl rfl (hR.clO ko_42 (by decide) (by decide)) (by decide) (Nat.le_of_ble_eq_true rfl) (Nat.le_of_ble_eq_true rfl) rfl (Nat.le_of_ble_eq_true rfl) rfl ?_
  refine zz_J.mono (k hR) ?_
  intro o h' hE
  cases o with
  | inl v => exact zz_J.weak hE rfl ⟨rfl, rfl, rfl, rfl, rfl, trivial⟩
  | inr q => exact hE
theorem cb_226_135 {X : Nat → Option zz_C} {h : zz_H} {t : cS} {s : mS} {d : Nat} {Q : zz_O → zz_H → Prop} {x1 : Int64} {x3 : Int64} {x7 : Int32} {x9 : Int32} {y0 : Int32} {y1 : Int32} (hR : kR h t s) (k1 : y0 = y1 → (∀ {h : zz_H}, kR h t s → zz_J zp_P zt_tf zt_fd X d zm_226 142 [(0, .ref 58), (1, .long x1), (3, .long x3), (7, .int x7), (9, .int x9)] [] h Q)) (k2 : ¬ y0 = y1 → (∀ {h : zz_H}, kR h t s → zz_J zp_P zt_tf zt_fd X d zm_226 138 [(0, .ref 58), (1, .long x1), (3, .long x3), (7, .int x7), (9, .int x9)] [] h Q)) : zz_J zp_P zt_tf zt_fd X d zm_226 135 [(0, .ref 58), (1, .long x1), (3, .long x3), (7, .int x7), (9, .int x9)] [.int y1, .int y0] h Q := by
  refine zz_J.b2 142 138 (A := y0 = y1) rfl rfl (by decide) rfl rfl (fun c => ?_) (fun c => ?_)
  · exact zz_J.weak (k1 c hR) rfl ⟨rfl, rfl, rfl, rfl, rfl, trivial⟩
  · exact zz_J.weak (k2 c hR) rfl ⟨rfl, rfl, rfl, rfl, rfl, trivial⟩
theorem cb_226_138 {X : Nat → Option zz_C} {h : zz_H} {t : cS} {s : mS} {d : Nat} {Q : zz_O → zz_H → Prop} {x1 : Int64} {x3 : Int64} {x7 : Int32} {x9 : Int32} (hR : kR h t s) (k : ∀ {h : zz_H}, kR h t s → zz_J zp_P zt_tf zt_fd X d zm_226 143 [(0, .ref 58), (1, .long x1), (3, .long x3), (7, .int x7), (9, .int x9)] [.int 1] h Q) : zz_J zp_P zt_tf zt_fd X d zm_226 138 [(0, .ref 58), (1, .long x1), (3, .long x3), (7, .int x7), (9, .int x9)] [] h Q := by
  refine zz_J.c 139 (.int 1) rfl rfl rfl rfl ?_
  refine zz_J.n 143 rfl rfl rfl ?_
  exact zz_J.weak (k hR) rfl ⟨rfl, rfl, rfl, rfl, rfl, trivial⟩
theorem cb_226_142 {X : Nat → Option zz_C} {h : zz_H} {t : cS} {s : mS} {d : Nat} {Q : zz_O → zz_H → Prop} {x1 : Int64} {x3 : Int64} {x7 : Int32} {x9 : Int32} (hR : kR h t s) (k : ∀ {h : zz_H}, kR h t s → zz_J zp_P zt_tf zt_fd X d zm_226 143 [(0, .ref 58), (1, .long x1), (3, .long x3), (7, .int x7), (9, .int x9)] [.int 0] h Q) : zz_J zp_P zt_tf zt_fd X d zm_226 142 [(0, .ref 58), (1, .long x1), (3, .long x3), (7, .int x7), (9, .int x9)] [] h Q := by
  refine zz_J.c 143 (.int 0) rfl rfl rfl rfl ?_
  exact zz_J.weak (k hR) rfl ⟨rfl, rfl, rfl, rfl, rfl, trivial⟩
theorem cb_226_143 {X : Nat → Option zz_C} {h : zz_H} {t : cS} {s : mS} {d : Nat} {Q : zz_O → zz_H → Prop} {x1 : Int64} {x3 : Int64} {x7 : Int32} {x9 : Int32} {y0 : Int32} (hR : kR h t s) (k : ∀ {h : zz_H}, kR h t s → zz_J zp_P zt_tf zt_fd X d zm_226 95 [(0, .ref 58), (1, .long x1), (3, .long x3), (7, .int x7), (8, .int y0), (9, .int (x9 + 1))] [] h Q) : zz_J zp_P zt_tf zt_fd X d zm_226 143 [(0, .ref 58), (1, .long x1), (3, .long x3), (7, .int x7), (9, .int x9)] [.int y0] h Q := by
  refine zz_J.n 145 rfl rfl rfl ?_
  refine zz_J.n 148 rfl rfl rfl ?_
  refine zz_J.n 95 rfl rfl rfl ?_
  exact zz_J.weak (k hR) rfl ⟨rfl, rfl, rfl, rfl, rfl, rfl, trivial⟩
theorem cb_226_151 {X : Nat → Option zz_C} {h : zz_H} {t : cS} {s : mS} {d : Nat} {Q : zz_O → zz_H → Prop} {x8 : Int32} (hR : kR h t s) (k : ∀ {h : zz_H}, kR h t s → Q (.inl (some (.int x8))) h) (rb : zz_reti (some .boolean) x8 = true) : zz_J zp_P zt_tf zt_fd X d zm_226 151 [(8, .int x8)] [] h Q := by
  refine zz_J.n 153 rfl rfl rfl ?_
  refine zz_J.ret rfl rfl (if_pos ⟨rfl, rb⟩) ?_
  exact k hR
def cf_226_22 (N : Nat) (X : Nat → Option zz_C)  (t : cS) : kO := some (t, .inl (some (.int 0)))
theorem cr_226_22 {X : Nat → Option zz_C} {s : mS} {N : Nat} {d : Nat} (hd : 3 ≤ d) {Q : zz_O → zz_H → Prop}  {h : zz_H} {t t' : cS} {o : kY} (hR : kR h t s) (hf : cf_226_22 N X  t = some (t', o)) (k : (∀ h', kR h' t' s → kE o Q h')) : zz_J zp_P zt_tf zt_fd X d zm_226 22 [] [] h Q := by
  unfold cf_226_22 at hf
  cases hf
  exact cb_226_22 hR  (fun {h} hR => k h hR)
def cf_226_151 (N : Nat) (X : Nat → Option zz_C) (x8 : Int32) (t : cS) : kO := if zz_reti (some .boolean) x8 = true then some (t, .inl (some (.int x8))) else none
theorem cr_226_151 {X : Nat → Option zz_C} {s : mS} {N : Nat} {d : Nat} (hd : 3 ≤ d) {Q : zz_O → zz_H → Prop} {x8 : Int32} {h : zz_H} {t t' : cS} {o : kY} (hR : kR h t s) (hf : cf_226_151 N X x8 t = some (t', o)) (k : (∀ h', kR h' t' s → kE o Q h')) : zz_J zp_P zt_tf zt_fd X d zm_226 151 [(8, .int x8)] [] h Q := by
  unfold cf_226_151 at hf
  obtain ⟨rb, hf⟩ := ko_if hf
  cases hf
  exact cb_226_151 hR  (fun {h} hR => k h hR) rb
def cf_226_143 (N : Nat) (X : Nat → Option zz_C) (rc : Nat → Int64 → Int64 → Int32 → Int32 → Int32 → cS → kO) (x1 : Int64) (x3 : Int64) (x7 : Int32) (x9 : Int32) (y0 : Int32) (t : cS) : kO := rc 0 x1 x3 x7 y0 (x9 + 1) t
theorem cr_226_143 {X : Nat → Option zz_C} {s : mS} {N : Nat} {d : Nat} (hd : 3 ≤ d) {rc : Nat → Int64 → Int64 → Int32 → Int32 → Int32 → cS → kO} (hrc0 : ∀ {Q : zz_O → zz_H → Prop} {x1 : Int64} {x3 : Int64} {x7 : Int32} {x8 : Int32} {x9 : Int32} {h : zz_H} {t t' : cS} {o : kY}, kR h t s → rc 0 x1 x3 x7 x8 x9 t = some (t', o) → (∀ h', kR h' t' s → kE o Q h') → zz_J zp_P zt_tf zt_fd X d zm_226 95 [(0, .ref 58), (1, .long x1), (3, .long x3), (7, .int x7), (8, .int x8), (9, .int x9)] [] h Q) {Q : zz_O → zz_H → Prop} {x1 : Int64} {x3 : Int64} {x7 : Int32} {x9 : Int32} {y0 : Int32} {h : zz_H} {t t' : cS} {o : kY} (hR : kR h t s) (hf : cf_226_143 N X rc x1 x3 x7 x9 y0 t = some (t', o)) (k : (∀ h', kR h' t' s → kE o Q h')) : zz_J zp_P zt_tf zt_fd X d zm_226 143 [(0, .ref 58), (1, .long x1), (3, .long x3), (7, .int x7), (9, .int x9)] [.int y0] h Q := by
  unfold cf_226_143 at hf
  exact cb_226_143 hR  (fun hR => hrc0 hR hf k)
def cf_226_138 (N : Nat) (X : Nat → Option zz_C) (rc : Nat → Int64 → Int64 → Int32 → Int32 → Int32 → cS → kO) (x1 : Int64) (x3 : Int64) (x7 : Int32) (x9 : Int32) (t : cS) : kO := cf_226_143 N X rc x1 x3 x7 x9 1 t
theorem cr_226_138 {X : Nat → Option zz_C} {s : mS} {N : Nat} {d : Nat} (hd : 3 ≤ d) {rc : Nat → Int64 → Int64 → Int32 → Int32 → Int32 → cS → kO} (hrc0 : ∀ {Q : zz_O → zz_H → Prop} {x1 : Int64} {x3 : Int64} {x7 : Int32} {x8 : Int32} {x9 : Int32} {h : zz_H} {t t' : cS} {o : kY}, kR h t s → rc 0 x1 x3 x7 x8 x9 t = some (t', o) → (∀ h', kR h' t' s → kE o Q h') → zz_J zp_P zt_tf zt_fd X d zm_226 95 [(0, .ref 58), (1, .long x1), (3, .long x3), (7, .int x7), (8, .int x8), (9, .int x9)] [] h Q) {Q : zz_O → zz_H → Prop} {x1 : Int64} {x3 : Int64} {x7 : Int32} {x9 : Int32} {h : zz_H} {t t' : cS} {o : kY} (hR : kR h t s) (hf : cf_226_138 N X rc x1 x3 x7 x9 t = some (t', o)) (k : (∀ h', kR h' t' s → kE o Q h')) : zz_J zp_P zt_tf zt_fd X d zm_226 138 [(0, .ref 58), (1, .long x1), (3, .long x3), (7, .int x7), (9, .int x9)] [] h Q := by
  unfold cf_226_138 at hf
  exact cb_226_138 hR  (fun hR => cr_226_143 hd hrc0 hR hf k)
def cf_226_142 (N : Nat) (X : Nat → Option zz_C) (rc : Nat → Int64 → Int64 → Int32 → Int32 → Int32 → cS → kO) (x1 : Int64) (x3 : Int64) (x7 : Int32) (x9 : Int32) (t : cS) : kO := cf_226_143 N X rc x1 x3 x7 x9 0 t
theorem cr_226_142 {X : Nat → Option zz_C} {s : mS} {N : Nat} {d : Nat} (hd : 3 ≤ d) {rc : Nat → Int64 → Int64 → Int32 → Int32 → Int32 → cS → kO} (hrc0 : ∀ {Q : zz_O → zz_H → Prop} {x1 : Int64} {x3 : Int64} {x7 : Int32} {x8 : Int32} {x9 : Int32} {h : zz_H} {t t' : cS} {o : kY}, kR h t s → rc 0 x1 x3 x7 x8 x9 t = some (t', o) → (∀ h', kR h' t' s → kE o Q h') → zz_J zp_P zt_tf zt_fd X d zm_226 95 [(0, .ref 58), (1, .long x1), (3, .long x3), (7, .int x7), (8, .int x8), (9, .int x9)] [] h Q) {Q : zz_O → zz_H → Prop} {x1 : Int64} {x3 : Int64} {x7 : Int32} {x9 : Int32} {h : zz_H} {t t' : cS} {o : kY} (hR : kR h t s) (hf : cf_226_142 N X rc x1 x3 x7 x9 t = some (t', o)) (k : (∀ h', kR h' t' s → kE o Q h')) : zz_J zp_P zt_tf zt_fd X d zm_226 142 [(0, .ref 58), (1, .long x1), (3, .long x3), (7, .int x7), (9, .int x9)] [] h Q := by
  unfold cf_226_142 at hf
  exact cb_226_142 hR  (fun hR => cr_226_143 hd hrc0 hR hf k)
def cf_226_135 (N : Nat) (X : Nat → Option zz_C) (rc : Nat → Int64 → Int64 → Int32 → Int32 → Int32 → cS → kO) (x1 : Int64) (x3 : Int64) (x7 : Int32) (x9 : Int32) (y0 : Int32) (y1 : Int32) (t : cS) : kO := if y0 = y1 then cf_226_142 N X rc x1 x3 x7 x9 t else cf_226_138 N X rc x1 x3 x7 x9 t
theorem cr_226_135 {X : Nat → Option zz_C} {s : mS} {N : Nat} {d : Nat} (hd : 3 ≤ d) {rc : Nat → Int64 → Int64 → Int32 → Int32 → Int32 → cS → kO} (hrc0 : ∀ {Q : zz_O → zz_H → Prop} {x1 : Int64} {x3 : Int64} {x7 : Int32} {x8 : Int32} {x9 : Int32} {h : zz_H} {t t' : cS} {o : kY}, kR h t s → rc 0 x1 x3 x7 x8 x9 t = some (t', o) → (∀ h', kR h' t' s → kE o Q h') → zz_J zp_P zt_tf zt_fd X d zm_226 95 [(0, .ref 58), (1, .long x1), (3, .long x3), (7, .int x7), (8, .int x8), (9, .int x9)] [] h Q) {Q : zz_O → zz_H → Prop} {x1 : Int64} {x3 : Int64} {x7 : Int32} {x9 : Int32} {y0 : Int32} {y1 : Int32} {h : zz_H} {t t' : cS} {o : kY} (hR : kR h t s) (hf : cf_226_135 N X rc x1 x3 x7 x9 y0 y1 t = some (t', o)) (k : (∀ h', kR h' t' s → kE o Q h')) : zz_J zp_P zt_tf zt_fd X d zm_226 135 [(0, .ref 58), (1, .long x1), (3, .long x3), (7, .int x7), (9, .int x9)] [.int y1, .int y0] h Q := by
  unfold cf_226_135 at hf
  refine cb_226_135 hR  (fun c {h} hR => ?_) (fun c {h} hR => ?_)
  · rw [if_pos c] at hf
    exact cr_226_142 hd hrc0 hR hf k
  · rw [if_neg c] at hf
    exact cr_226_138 hd hrc0 hR hf k
def cf_226_132 (N : Nat) (X : Nat → Option zz_C) (rc : Nat → Int64 → Int64 → Int32 → Int32 → Int32 → cS → kO) (x1 : Int64) (x3 : Int64) (x7 : Int32) (x9 : Int32) (y0 : Int32) (y2 : Int64) (t : cS) : kO := ko_call 2 (cf_128 N X y2 t) (fun g1 v1 => co_i v1 (fun y => cf_226_135 N X rc x1 x3 x7 x9 y0 y g1))
theorem cr_226_132 {X : Nat → Option zz_C} {s : mS} {N : Nat} {d : Nat} (hd : 3 ≤ d) {rc : Nat → Int64 → Int64 → Int32 → Int32 → Int32 → cS → kO} (hrc0 : ∀ {Q : zz_O → zz_H → Prop} {x1 : Int64} {x3 : Int64} {x7 : Int32} {x8 : Int32} {x9 : Int32} {h : zz_H} {t t' : cS} {o : kY}, kR h t s → rc 0 x1 x3 x7 x8 x9 t = some (t', o) → (∀ h', kR h' t' s → kE o Q h') → zz_J zp_P zt_tf zt_fd X d zm_226 95 [(0, .ref 58), (1, .long x1), (3, .long x3), (7, .int x7), (8, .int x8), (9, .int x9)] [] h Q) {Q : zz_O → zz_H → Prop} {x1 : Int64} {x3 : Int64} {x7 : Int32} {x9 : Int32} {y0 : Int32} {y2 : Int64} {h : zz_H} {t t' : cS} {o : kY} (hR : kR h t s) (hf : cf_226_132 N X rc x1 x3 x7 x9 y0 y2 t = some (t', o)) (k : (∀ h', kR h' t' s → kE o Q h')) : zz_J zp_P zt_tf zt_fd X d zm_226 132 [(0, .ref 58), (1, .long x1), (3, .long x3), (7, .int x7), (9, .int x9)] [.long y2, .ref 42, .int y0] h Q := by
  unfold cf_226_132 at hf
  obtain ⟨d', rfl⟩ : ∃ d', d = d' + 1 := ⟨d - 1, by omega⟩
  refine cb_226_132 hR  (fun {h} hR => ?_)
  rcases ko_call_ok hf with ⟨g1, v1, er, hf⟩ | ⟨g1, er, hq⟩
  · obtain ⟨y, hv, hf2⟩ := co_i_ok hf
    clear hf
    have hf := hf2
    clear hf2
    subst hv
    refine cr_128 (by omega) hR er (fun h hR => ?_)
    exact cr_226_135 hd hrc0 hR hf k
  · refine cr_128 (by omega) hR er (fun h hR => ?_)
    exact ko_thrown hq hR k
def cf_226_121 (N : Nat) (X : Nat → Option zz_C) (rc : Nat → Int64 → Int64 → Int32 → Int32 → Int32 → cS → kO) (x1 : Int64) (x3 : Int64) (x7 : Int32) (x9 : Int32) (y0 : Int32) (t : cS) : kO := ko_call 8 (cf_229 N X x3 x9 t) (fun g1 v1 => co_l v1 (fun y => cf_226_132 N X rc x1 x3 x7 x9 y0 y g1))
theorem cr_226_121 {X : Nat → Option zz_C} {s : mS} {N : Nat} {d : Nat} (hd : 3 ≤ d) {rc : Nat → Int64 → Int64 → Int32 → Int32 → Int32 → cS → kO} (hrc0 : ∀ {Q : zz_O → zz_H → Prop} {x1 : Int64} {x3 : Int64} {x7 : Int32} {x8 : Int32} {x9 : Int32} {h : zz_H} {t t' : cS} {o : kY}, kR h t s → rc 0 x1 x3 x7 x8 x9 t = some (t', o) → (∀ h', kR h' t' s → kE o Q h') → zz_J zp_P zt_tf zt_fd X d zm_226 95 [(0, .ref 58), (1, .long x1), (3, .long x3), (7, .int x7), (8, .int x8), (9, .int x9)] [] h Q) {Q : zz_O → zz_H → Prop} {x1 : Int64} {x3 : Int64} {x7 : Int32} {x9 : Int32} {y0 : Int32} {h : zz_H} {t t' : cS} {o : kY} (hR : kR h t s) (hf : cf_226_121 N X rc x1 x3 x7 x9 y0 t = some (t', o)) (k : (∀ h', kR h' t' s → kE o Q h')) : zz_J zp_P zt_tf zt_fd X d zm_226 121 [(0, .ref 58), (1, .long x1), (3, .long x3), (7, .int x7), (9, .int x9)] [.int y0] h Q := by
  unfold cf_226_121 at hf
  obtain ⟨d', rfl⟩ : ∃ d', d = d' + 1 := ⟨d - 1, by omega⟩
  refine cb_226_121 hR  (fun {h} hR => ?_)
  rcases ko_call_ok hf with ⟨g1, v1, er, hf⟩ | ⟨g1, er, hq⟩
  · obtain ⟨y, hv, hf2⟩ := co_l_ok hf
    clear hf
    have hf := hf2
    clear hf2
    subst hv
    refine cr_229 (by omega) hR er (fun h hR => ?_)
    exact cr_226_132 hd hrc0 hR hf k
  · refine cr_229 (by omega) hR er (fun h hR => ?_)
    exact ko_thrown hq hR k
def cf_226_118 (N : Nat) (X : Nat → Option zz_C) (rc : Nat → Int64 → Int64 → Int32 → Int32 → Int32 → cS → kO) (x1 : Int64) (x3 : Int64) (x7 : Int32) (x9 : Int32) (y1 : Int64) (t : cS) : kO := ko_call 2 (cf_128 N X y1 t) (fun g1 v1 => co_i v1 (fun y => cf_226_121 N X rc x1 x3 x7 x9 y g1))
theorem cr_226_118 {X : Nat → Option zz_C} {s : mS} {N : Nat} {d : Nat} (hd : 3 ≤ d) {rc : Nat → Int64 → Int64 → Int32 → Int32 → Int32 → cS → kO} (hrc0 : ∀ {Q : zz_O → zz_H → Prop} {x1 : Int64} {x3 : Int64} {x7 : Int32} {x8 : Int32} {x9 : Int32} {h : zz_H} {t t' : cS} {o : kY}, kR h t s → rc 0 x1 x3 x7 x8 x9 t = some (t', o) → (∀ h', kR h' t' s → kE o Q h') → zz_J zp_P zt_tf zt_fd X d zm_226 95 [(0, .ref 58), (1, .long x1), (3, .long x3), (7, .int x7), (8, .int x8), (9, .int x9)] [] h Q) {Q : zz_O → zz_H → Prop} {x1 : Int64} {x3 : Int64} {x7 : Int32} {x9 : Int32} {y1 : Int64} {h : zz_H} {t t' : cS} {o : kY} (hR : kR h t s) (hf : cf_226_118 N X rc x1 x3 x7 x9 y1 t = some (t', o)) (k : (∀ h', kR h' t' s → kE o Q h')) : zz_J zp_P zt_tf zt_fd X d zm_226 118 [(0, .ref 58), (1, .long x1), (3, .long x3), (7, .int x7), (9, .int x9)] [.long y1, .ref 42] h Q := by
  unfold cf_226_118 at hf
  obtain ⟨d', rfl⟩ : ∃ d', d = d' + 1 := ⟨d - 1, by omega⟩
  refine cb_226_118 hR  (fun {h} hR => ?_)
  rcases ko_call_ok hf with ⟨g1, v1, er, hf⟩ | ⟨g1, er, hq⟩
  · obtain ⟨y, hv, hf2⟩ := co_i_ok hf
    clear hf
    have hf := hf2
    clear hf2
    subst hv
    refine cr_128 (by omega) hR er (fun h hR => ?_)
    exact cr_226_121 hd hrc0 hR hf k
  · refine cr_128 (by omega) hR er (fun h hR => ?_)
    exact ko_thrown hq hR k
def cf_226_107 (N : Nat) (X : Nat → Option zz_C) (rc : Nat → Int64 → Int64 → Int32 → Int32 → Int32 → cS → kO) (x1 : Int64) (x3 : Int64) (x7 : Int32) (x9 : Int32) (t : cS) : kO := ko_call 8 (cf_229 N X x1 x9 t) (fun g1 v1 => co_l v1 (fun y => cf_226_118 N X rc x1 x3 x7 x9 y g1))
theorem cr_226_107 {X : Nat → Option zz_C} {s : mS} {N : Nat} {d : Nat} (hd : 3 ≤ d) {rc : Nat → Int64 → Int64 → Int32 → Int32 → Int32 → cS → kO} (hrc0 : ∀ {Q : zz_O → zz_H → Prop} {x1 : Int64} {x3 : Int64} {x7 : Int32} {x8 : Int32} {x9 : Int32} {h : zz_H} {t t' : cS} {o : kY}, kR h t s → rc 0 x1 x3 x7 x8 x9 t = some (t', o) → (∀ h', kR h' t' s → kE o Q h') → zz_J zp_P zt_tf zt_fd X d zm_226 95 [(0, .ref 58), (1, .long x1), (3, .long x3), (7, .int x7), (8, .int x8), (9, .int x9)] [] h Q) {Q : zz_O → zz_H → Prop} {x1 : Int64} {x3 : Int64} {x7 : Int32} {x9 : Int32} {h : zz_H} {t t' : cS} {o : kY} (hR : kR h t s) (hf : cf_226_107 N X rc x1 x3 x7 x9 t = some (t', o)) (k : (∀ h', kR h' t' s → kE o Q h')) : zz_J zp_P zt_tf zt_fd X d zm_226 107 [(0, .ref 58), (1, .long x1), (3, .long x3), (7, .int x7), (9, .int x9)] [] h Q := by
  unfold cf_226_107 at hf
  obtain ⟨d', rfl⟩ : ∃ d', d = d' + 1 := ⟨d - 1, by omega⟩
  refine cb_226_107 hR  (fun {h} hR => ?_)
  rcases ko_call_ok hf with ⟨g1, v1, er, hf⟩ | ⟨g1, er, hq⟩
  · obtain ⟨y, hv, hf2⟩ := co_l_ok hf
    clear hf
    have hf := hf2
    clear hf2
    subst hv
    refine cr_229 (by omega) hR er (fun h hR => ?_)
    exact cr_226_118 hd hrc0 hR hf k
  · refine cr_229 (by omega) hR er (fun h hR => ?_)
    exact ko_thrown hq hR k
def cf_226_102 (N : Nat) (X : Nat → Option zz_C) (rc : Nat → Int64 → Int64 → Int32 → Int32 → Int32 → cS → kO) (x1 : Int64) (x3 : Int64) (x7 : Int32) (x8 : Int32) (x9 : Int32) (t : cS) : kO := if ¬ x8 = 0 then cf_226_151 N X x8 t else cf_226_107 N X rc x1 x3 x7 x9 t
theorem cr_226_102 {X : Nat → Option zz_C} {s : mS} {N : Nat} {d : Nat} (hd : 3 ≤ d) {rc : Nat → Int64 → Int64 → Int32 → Int32 → Int32 → cS → kO} (hrc0 : ∀ {Q : zz_O → zz_H → Prop} {x1 : Int64} {x3 : Int64} {x7 : Int32} {x8 : Int32} {x9 : Int32} {h : zz_H} {t t' : cS} {o : kY}, kR h t s → rc 0 x1 x3 x7 x8 x9 t = some (t', o) → (∀ h', kR h' t' s → kE o Q h') → zz_J zp_P zt_tf zt_fd X d zm_226 95 [(0, .ref 58), (1, .long x1), (3, .long x3), (7, .int x7), (8, .int x8), (9, .int x9)] [] h Q) {Q : zz_O → zz_H → Prop} {x1 : Int64} {x3 : Int64} {x7 : Int32} {x8 : Int32} {x9 : Int32} {h : zz_H} {t t' : cS} {o : kY} (hR : kR h t s) (hf : cf_226_102 N X rc x1 x3 x7 x8 x9 t = some (t', o)) (k : (∀ h', kR h' t' s → kE o Q h')) : zz_J zp_P zt_tf zt_fd X d zm_226 102 [(0, .ref 58), (1, .long x1), (3, .long x3), (7, .int x7), (8, .int x8), (9, .int x9)] [] h Q := by
  unfold cf_226_102 at hf
  refine cb_226_102 hR  (fun c {h} hR => ?_) (fun c {h} hR => ?_)
  · rw [if_pos c] at hf
    exact cr_226_151 hd hR hf k
  · rw [if_neg c] at hf
    exact cr_226_107 hd hrc0 hR hf k
def cf_226_95 (N : Nat) (X : Nat → Option zz_C) (rc : Nat → Int64 → Int64 → Int32 → Int32 → Int32 → cS → kO) (x1 : Int64) (x3 : Int64) (x7 : Int32) (x8 : Int32) (x9 : Int32) (t : cS) : kO := if x7 ≤ x9 then cf_226_151 N X x8 t else cf_226_102 N X rc x1 x3 x7 x8 x9 t
theorem cr_226_95 {X : Nat → Option zz_C} {s : mS} {N : Nat} {d : Nat} (hd : 3 ≤ d) {rc : Nat → Int64 → Int64 → Int32 → Int32 → Int32 → cS → kO} (hrc0 : ∀ {Q : zz_O → zz_H → Prop} {x1 : Int64} {x3 : Int64} {x7 : Int32} {x8 : Int32} {x9 : Int32} {h : zz_H} {t t' : cS} {o : kY}, kR h t s → rc 0 x1 x3 x7 x8 x9 t = some (t', o) → (∀ h', kR h' t' s → kE o Q h') → zz_J zp_P zt_tf zt_fd X d zm_226 95 [(0, .ref 58), (1, .long x1), (3, .long x3), (7, .int x7), (8, .int x8), (9, .int x9)] [] h Q) {Q : zz_O → zz_H → Prop} {x1 : Int64} {x3 : Int64} {x7 : Int32} {x8 : Int32} {x9 : Int32} {h : zz_H} {t t' : cS} {o : kY} (hR : kR h t s) (hf : cf_226_95 N X rc x1 x3 x7 x8 x9 t = some (t', o)) (k : (∀ h', kR h' t' s → kE o Q h')) : zz_J zp_P zt_tf zt_fd X d zm_226 95 [(0, .ref 58), (1, .long x1), (3, .long x3), (7, .int x7), (8, .int x8), (9, .int x9)] [] h Q := by
  unfold cf_226_95 at hf
  refine cb_226_95 hR  (fun c {h} hR => ?_) (fun c {h} hR => ?_)
  · rw [if_pos c] at hf
    exact cr_226_151 hd hR hf k
  · rw [if_neg c] at hf
    exact cr_226_102 hd hrc0 hR hf k
def cf_226_L2 (N : Nat) (X : Nat → Option zz_C) : Nat → Nat → Int64 → Int64 → Int32 → Int32 → Int32 → cS → kO
  | 0, _, _, _, _, _, _, _ => none
  | n + 1, l, x1, x3, x7, x8, x9, t => if l = 0 then cf_226_95 N X (cf_226_L2 N X n) x1 x3 x7 x8 x9 t else none
theorem cr_226_L2 {X : Nat → Option zz_C} {s : mS} {N : Nat} {d : Nat} (hd : 3 ≤ d) : ∀ n : Nat, (∀ {Q : zz_O → zz_H → Prop} {x1 : Int64} {x3 : Int64} {x7 : Int32} {x8 : Int32} {x9 : Int32} {h : zz_H} {t t' : cS} {o : kY}, kR h t s → cf_226_L2 N X n 0 x1 x3 x7 x8 x9 t = some (t', o) → (∀ h', kR h' t' s → kE o Q h') → zz_J zp_P zt_tf zt_fd X d zm_226 95 [(0, .ref 58), (1, .long x1), (3, .long x3), (7, .int x7), (8, .int x8), (9, .int x9)] [] h Q) := by
  intro n
  induction n with
  | zero => exact (fun _ hf _ => by cases hf)
  | succ n ih =>
    have h0 := @ih
    intro Q _ _ _ _ _ h t t' o hR hf k
    unfold cf_226_L2 at hf
    rw [if_pos rfl] at hf
    exact cr_226_95 hd h0 hR hf k
def cf_226_87 (N : Nat) (X : Nat → Option zz_C) (x1 : Int64) (x3 : Int64) (y0 : Int32) (t : cS) : kO := cf_226_L2 N X N 0 x1 x3 y0 0 0 t
theorem cr_226_87 {X : Nat → Option zz_C} {s : mS} {N : Nat} {d : Nat} (hd : 3 ≤ d) {Q : zz_O → zz_H → Prop} {x1 : Int64} {x3 : Int64} {y0 : Int32} {h : zz_H} {t t' : cS} {o : kY} (hR : kR h t s) (hf : cf_226_87 N X x1 x3 y0 t = some (t', o)) (k : (∀ h', kR h' t' s → kE o Q h')) : zz_J zp_P zt_tf zt_fd X d zm_226 87 [(0, .ref 58), (1, .long x1), (3, .long x3)] [.int y0] h Q := by
  unfold cf_226_87 at hf
  exact cb_226_87 hR  (fun hR => cr_226_L2 hd N hR hf k)
def cf_226_86 (N : Nat) (X : Nat → Option zz_C) (x1 : Int64) (x3 : Int64) (t : cS) : kO := cf_226_87 N X x1 x3 0 t
theorem cr_226_86 {X : Nat → Option zz_C} {s : mS} {N : Nat} {d : Nat} (hd : 3 ≤ d) {Q : zz_O → zz_H → Prop} {x1 : Int64} {x3 : Int64} {h : zz_H} {t t' : cS} {o : kY} (hR : kR h t s) (hf : cf_226_86 N X x1 x3 t = some (t', o)) (k : (∀ h', kR h' t' s → kE o Q h')) : zz_J zp_P zt_tf zt_fd X d zm_226 86 [(0, .ref 58), (1, .long x1), (3, .long x3)] [] h Q := by
  unfold cf_226_86 at hf
  exact cb_226_86 hR  (fun hR => cr_226_87 hd hR hf k)
def cf_226_83 (N : Nat) (X : Nat → Option zz_C) (x1 : Int64) (x3 : Int64) (y0 : Int32) (t : cS) : kO := cf_226_87 N X x1 x3 y0 t
theorem cr_226_83 {X : Nat → Option zz_C} {s : mS} {N : Nat} {d : Nat} (hd : 3 ≤ d) {Q : zz_O → zz_H → Prop} {x1 : Int64} {x3 : Int64} {y0 : Int32} {h : zz_H} {t t' : cS} {o : kY} (hR : kR h t s) (hf : cf_226_83 N X x1 x3 y0 t = some (t', o)) (k : (∀ h', kR h' t' s → kE o Q h')) : zz_J zp_P zt_tf zt_fd X d zm_226 83 [(0, .ref 58), (1, .long x1), (3, .long x3)] [.int y0] h Q := by
  unfold cf_226_83 at hf
  exact cb_226_83 hR  (fun hR => cr_226_87 hd hR hf k)
def cf_226_75 (N : Nat) (X : Nat → Option zz_C) (x1 : Int64) (x3 : Int64) (t : cS) : kO := ko_call 2 (cf_128 N X x3 t) (fun g1 v1 => co_i v1 (fun y => cf_226_83 N X x1 x3 y g1))
theorem cr_226_75 {X : Nat → Option zz_C} {s : mS} {N : Nat} {d : Nat} (hd : 3 ≤ d) {Q : zz_O → zz_H → Prop} {x1 : Int64} {x3 : Int64} {h : zz_H} {t t' : cS} {o : kY} (hR : kR h t s) (hf : cf_226_75 N X x1 x3 t = some (t', o)) (k : (∀ h', kR h' t' s → kE o Q h')) : zz_J zp_P zt_tf zt_fd X d zm_226 75 [(0, .ref 58), (1, .long x1), (3, .long x3)] [] h Q := by
  unfold cf_226_75 at hf
  obtain ⟨d', rfl⟩ : ∃ d', d = d' + 1 := ⟨d - 1, by omega⟩
  refine cb_226_75 hR  (fun {h} hR => ?_)
  rcases ko_call_ok hf with ⟨g1, v1, er, hf⟩ | ⟨g1, er, hq⟩
  · obtain ⟨y, hv, hf2⟩ := co_i_ok hf
    clear hf
    have hf := hf2
    clear hf2
    subst hv
    refine cr_128 (by omega) hR er (fun h hR => ?_)
    exact cr_226_83 hd hR hf k
  · refine cr_128 (by omega) hR er (fun h hR => ?_)
    exact ko_thrown hq hR k
def cf_226_69 (N : Nat) (X : Nat → Option zz_C) (x1 : Int64) (x3 : Int64) (x6 : Int32) (t : cS) : kO := if ¬ x6 = 2 then cf_226_86 N X x1 x3 t else cf_226_75 N X x1 x3 t
theorem cr_226_69 {X : Nat → Option zz_C} {s : mS} {N : Nat} {d : Nat} (hd : 3 ≤ d) {Q : zz_O → zz_H → Prop} {x1 : Int64} {x3 : Int64} {x6 : Int32} {h : zz_H} {t t' : cS} {o : kY} (hR : kR h t s) (hf : cf_226_69 N X x1 x3 x6 t = some (t', o)) (k : (∀ h', kR h' t' s → kE o Q h')) : zz_J zp_P zt_tf zt_fd X d zm_226 69 [(0, .ref 58), (1, .long x1), (3, .long x3), (6, .int x6)] [] h Q := by
  unfold cf_226_69 at hf
  refine cb_226_69 hR  (fun c {h} hR => ?_) (fun c {h} hR => ?_)
  · rw [if_pos c] at hf
    exact cr_226_86 hd hR hf k
  · rw [if_neg c] at hf
    exact cr_226_75 hd hR hf k
def cf_226_66 (N : Nat) (X : Nat → Option zz_C) (x1 : Int64) (x3 : Int64) (y0 : Int32) (t : cS) : kO := cf_226_87 N X x1 x3 y0 t
theorem cr_226_66 {X : Nat → Option zz_C} {s : mS} {N : Nat} {d : Nat} (hd : 3 ≤ d) {Q : zz_O → zz_H → Prop} {x1 : Int64} {x3 : Int64} {y0 : Int32} {h : zz_H} {t t' : cS} {o : kY} (hR : kR h t s) (hf : cf_226_66 N X x1 x3 y0 t = some (t', o)) (k : (∀ h', kR h' t' s → kE o Q h')) : zz_J zp_P zt_tf zt_fd X d zm_226 66 [(0, .ref 58), (1, .long x1), (3, .long x3)] [.int y0] h Q := by
  unfold cf_226_66 at hf
  exact cb_226_66 hR  (fun hR => cr_226_87 hd hR hf k)
def cf_226_58 (N : Nat) (X : Nat → Option zz_C) (x1 : Int64) (x3 : Int64) (t : cS) : kO := ko_call 2 (cf_128 N X x1 t) (fun g1 v1 => co_i v1 (fun y => cf_226_66 N X x1 x3 y g1))
theorem cr_226_58 {X : Nat → Option zz_C} {s : mS} {N : Nat} {d : Nat} (hd : 3 ≤ d) {Q : zz_O → zz_H → Prop} {x1 : Int64} {x3 : Int64} {h : zz_H} {t t' : cS} {o : kY} (hR : kR h t s) (hf : cf_226_58 N X x1 x3 t = some (t', o)) (k : (∀ h', kR h' t' s → kE o Q h')) : zz_J zp_P zt_tf zt_fd X d zm_226 58 [(0, .ref 58), (1, .long x1), (3, .long x3)] [] h Q := by
  unfold cf_226_58 at hf
  obtain ⟨d', rfl⟩ : ∃ d', d = d' + 1 := ⟨d - 1, by omega⟩
  refine cb_226_58 hR  (fun {h} hR => ?_)
  rcases ko_call_ok hf with ⟨g1, v1, er, hf⟩ | ⟨g1, er, hq⟩
  · obtain ⟨y, hv, hf2⟩ := co_i_ok hf
    clear hf
    have hf := hf2
    clear hf2
    subst hv
    refine cr_128 (by omega) hR er (fun h hR => ?_)
    exact cr_226_66 hd hR hf k
  · refine cr_128 (by omega) hR er (fun h hR => ?_)
    exact ko_thrown hq hR k
def cf_226_52 (N : Nat) (X : Nat → Option zz_C) (x1 : Int64) (x3 : Int64) (x5 : Int32) (x6 : Int32) (t : cS) : kO := if ¬ x5 = 2 then cf_226_69 N X x1 x3 x6 t else cf_226_58 N X x1 x3 t
theorem cr_226_52 {X : Nat → Option zz_C} {s : mS} {N : Nat} {d : Nat} (hd : 3 ≤ d) {Q : zz_O → zz_H → Prop} {x1 : Int64} {x3 : Int64} {x5 : Int32} {x6 : Int32} {h : zz_H} {t t' : cS} {o : kY} (hR : kR h t s) (hf : cf_226_52 N X x1 x3 x5 x6 t = some (t', o)) (k : (∀ h', kR h' t' s → kE o Q h')) : zz_J zp_P zt_tf zt_fd X d zm_226 52 [(0, .ref 58), (1, .long x1), (3, .long x3), (5, .int x5), (6, .int x6)] [] h Q := by
  unfold cf_226_52 at hf
  refine cb_226_52 hR  (fun c {h} hR => ?_) (fun c {h} hR => ?_)
  · rw [if_pos c] at hf
    exact cr_226_69 hd hR hf k
  · rw [if_neg c] at hf
    exact cr_226_58 hd hR hf k
def cf_226_50 (N : Nat) (X : Nat → Option zz_C)  (t : cS) : kO := some (t, .inl (some (.int 1)))
theorem cr_226_50 {X : Nat → Option zz_C} {s : mS} {N : Nat} {d : Nat} (hd : 3 ≤ d) {Q : zz_O → zz_H → Prop}  {h : zz_H} {t t' : cS} {o : kY} (hR : kR h t s) (hf : cf_226_50 N X  t = some (t', o)) (k : (∀ h', kR h' t' s → kE o Q h')) : zz_J zp_P zt_tf zt_fd X d zm_226 50 [] [] h Q := by
  unfold cf_226_50 at hf
  cases hf
  exact cb_226_50 hR  (fun {h} hR => k h hR)
def cf_226_47 (N : Nat) (X : Nat → Option zz_C) (x1 : Int64) (x3 : Int64) (x5 : Int32) (x6 : Int32) (y0 : Int32) (y1 : Int32) (t : cS) : kO := if y0 = y1 then cf_226_52 N X x1 x3 x5 x6 t else cf_226_50 N X  t
theorem cr_226_47 {X : Nat → Option zz_C} {s : mS} {N : Nat} {d : Nat} (hd : 3 ≤ d) {Q : zz_O → zz_H → Prop} {x1 : Int64} {x3 : Int64} {x5 : Int32} {x6 : Int32} {y0 : Int32} {y1 : Int32} {h : zz_H} {t t' : cS} {o : kY} (hR : kR h t s) (hf : cf_226_47 N X x1 x3 x5 x6 y0 y1 t = some (t', o)) (k : (∀ h', kR h' t' s → kE o Q h')) : zz_J zp_P zt_tf zt_fd X d zm_226 47 [(0, .ref 58), (1, .long x1), (3, .long x3), (5, .int x5), (6, .int x6)] [.int y1, .int y0] h Q := by
  unfold cf_226_47 at hf
  refine cb_226_47 hR  (fun c {h} hR => ?_) (fun c {h} hR => ?_)
  · rw [if_pos c] at hf
    exact cr_226_52 hd hR hf k
  · rw [if_neg c] at hf
    exact cr_226_50 hd hR hf k
def cf_226_39 (N : Nat) (X : Nat → Option zz_C) (x1 : Int64) (x3 : Int64) (x5 : Int32) (x6 : Int32) (y0 : Int32) (t : cS) : kO := ko_call 2 (cf_128 N X x3 t) (fun g1 v1 => co_i v1 (fun y => cf_226_47 N X x1 x3 x5 x6 y0 y g1))
theorem cr_226_39 {X : Nat → Option zz_C} {s : mS} {N : Nat} {d : Nat} (hd : 3 ≤ d) {Q : zz_O → zz_H → Prop} {x1 : Int64} {x3 : Int64} {x5 : Int32} {x6 : Int32} {y0 : Int32} {h : zz_H} {t t' : cS} {o : kY} (hR : kR h t s) (hf : cf_226_39 N X x1 x3 x5 x6 y0 t = some (t', o)) (k : (∀ h', kR h' t' s → kE o Q h')) : zz_J zp_P zt_tf zt_fd X d zm_226 39 [(0, .ref 58), (1, .long x1), (3, .long x3), (5, .int x5), (6, .int x6)] [.int y0] h Q := by
  unfold cf_226_39 at hf
  obtain ⟨d', rfl⟩ : ∃ d', d = d' + 1 := ⟨d - 1, by omega⟩
  refine cb_226_39 hR  (fun {h} hR => ?_)
  rcases ko_call_ok hf with ⟨g1, v1, er, hf⟩ | ⟨g1, er, hq⟩
  · obtain ⟨y, hv, hf2⟩ := co_i_ok hf
    clear hf
    have hf := hf2
    clear hf2
    subst hv
    refine cr_128 (by omega) hR er (fun h hR => ?_)
    exact cr_226_47 hd hR hf k
  · refine cr_128 (by omega) hR er (fun h hR => ?_)
    exact ko_thrown hq hR k
def cf_226_31 (N : Nat) (X : Nat → Option zz_C) (x1 : Int64) (x3 : Int64) (x5 : Int32) (x6 : Int32) (t : cS) : kO := ko_call 2 (cf_128 N X x1 t) (fun g1 v1 => co_i v1 (fun y => cf_226_39 N X x1 x3 x5 x6 y g1))
theorem cr_226_31 {X : Nat → Option zz_C} {s : mS} {N : Nat} {d : Nat} (hd : 3 ≤ d) {Q : zz_O → zz_H → Prop} {x1 : Int64} {x3 : Int64} {x5 : Int32} {x6 : Int32} {h : zz_H} {t t' : cS} {o : kY} (hR : kR h t s) (hf : cf_226_31 N X x1 x3 x5 x6 t = some (t', o)) (k : (∀ h', kR h' t' s → kE o Q h')) : zz_J zp_P zt_tf zt_fd X d zm_226 31 [(0, .ref 58), (1, .long x1), (3, .long x3), (5, .int x5), (6, .int x6)] [] h Q := by
  unfold cf_226_31 at hf
  obtain ⟨d', rfl⟩ : ∃ d', d = d' + 1 := ⟨d - 1, by omega⟩
  refine cb_226_31 hR  (fun {h} hR => ?_)
  rcases ko_call_ok hf with ⟨g1, v1, er, hf⟩ | ⟨g1, er, hq⟩
  · obtain ⟨y, hv, hf2⟩ := co_i_ok hf
    clear hf
    have hf := hf2
    clear hf2
    subst hv
    refine cr_128 (by omega) hR er (fun h hR => ?_)
    exact cr_226_39 hd hR hf k
  · refine cr_128 (by omega) hR er (fun h hR => ?_)
    exact ko_thrown hq hR k
def cf_226_24 (N : Nat) (X : Nat → Option zz_C) (x1 : Int64) (x3 : Int64) (x5 : Int32) (x6 : Int32) (t : cS) : kO := if ¬ x5 = x6 then cf_226_52 N X x1 x3 x5 x6 t else cf_226_31 N X x1 x3 x5 x6 t
theorem cr_226_24 {X : Nat → Option zz_C} {s : mS} {N : Nat} {d : Nat} (hd : 3 ≤ d) {Q : zz_O → zz_H → Prop} {x1 : Int64} {x3 : Int64} {x5 : Int32} {x6 : Int32} {h : zz_H} {t t' : cS} {o : kY} (hR : kR h t s) (hf : cf_226_24 N X x1 x3 x5 x6 t = some (t', o)) (k : (∀ h', kR h' t' s → kE o Q h')) : zz_J zp_P zt_tf zt_fd X d zm_226 24 [(0, .ref 58), (1, .long x1), (3, .long x3), (5, .int x5), (6, .int x6)] [] h Q := by
  unfold cf_226_24 at hf
  refine cb_226_24 hR  (fun c {h} hR => ?_) (fun c {h} hR => ?_)
  · rw [if_pos c] at hf
    exact cr_226_52 hd hR hf k
  · rw [if_neg c] at hf
    exact cr_226_31 hd hR hf k
def cf_226_17 (N : Nat) (X : Nat → Option zz_C) (x1 : Int64) (x3 : Int64) (x5 : Int32) (x6 : Int32) (t : cS) : kO := if ¬ x6 = 0 then cf_226_24 N X x1 x3 x5 x6 t else cf_226_22 N X  t
theorem cr_226_17 {X : Nat → Option zz_C} {s : mS} {N : Nat} {d : Nat} (hd : 3 ≤ d) {Q : zz_O → zz_H → Prop} {x1 : Int64} {x3 : Int64} {x5 : Int32} {x6 : Int32} {h : zz_H} {t t' : cS} {o : kY} (hR : kR h t s) (hf : cf_226_17 N X x1 x3 x5 x6 t = some (t', o)) (k : (∀ h', kR h' t' s → kE o Q h')) : zz_J zp_P zt_tf zt_fd X d zm_226 17 [(0, .ref 58), (1, .long x1), (3, .long x3), (5, .int x5), (6, .int x6)] [] h Q := by
  unfold cf_226_17 at hf
  refine cb_226_17 hR  (fun c {h} hR => ?_) (fun c {h} hR => ?_)
  · rw [if_pos c] at hf
    exact cr_226_24 hd hR hf k
  · rw [if_neg c] at hf
    exact cr_226_22 hd hR hf k
def cf_226_10 (N : Nat) (X : Nat → Option zz_C) (x1 : Int64) (x3 : Int64) (x5 : Int32) (y0 : Int32) (t : cS) : kO := if x5 = 0 then cf_226_22 N X  t else cf_226_17 N X x1 x3 x5 y0 t
theorem cr_226_10 {X : Nat → Option zz_C} {s : mS} {N : Nat} {d : Nat} (hd : 3 ≤ d) {Q : zz_O → zz_H → Prop} {x1 : Int64} {x3 : Int64} {x5 : Int32} {y0 : Int32} {h : zz_H} {t t' : cS} {o : kY} (hR : kR h t s) (hf : cf_226_10 N X x1 x3 x5 y0 t = some (t', o)) (k : (∀ h', kR h' t' s → kE o Q h')) : zz_J zp_P zt_tf zt_fd X d zm_226 10 [(0, .ref 58), (1, .long x1), (3, .long x3), (5, .int x5)] [.int y0] h Q := by
  unfold cf_226_10 at hf
  refine cb_226_10 hR  (fun c {h} hR => ?_) (fun c {h} hR => ?_)
  · rw [if_pos c] at hf
    exact cr_226_22 hd hR hf k
  · rw [if_neg c] at hf
    exact cr_226_17 hd hR hf k
def cf_226_4 (N : Nat) (X : Nat → Option zz_C) (x1 : Int64) (x3 : Int64) (y0 : Int32) (t : cS) : kO := ko_call 1000 (cf_255 N X x3 t) (fun g1 v1 => co_i v1 (fun y => cf_226_10 N X x1 x3 y0 y g1))
theorem cr_226_4 {X : Nat → Option zz_C} {s : mS} {N : Nat} {d : Nat} (hd : 3 ≤ d) {Q : zz_O → zz_H → Prop} {x1 : Int64} {x3 : Int64} {y0 : Int32} {h : zz_H} {t t' : cS} {o : kY} (hR : kR h t s) (hf : cf_226_4 N X x1 x3 y0 t = some (t', o)) (k : (∀ h', kR h' t' s → kE o Q h')) : zz_J zp_P zt_tf zt_fd X d zm_226 4 [(0, .ref 58), (1, .long x1), (3, .long x3)] [.int y0] h Q := by
  unfold cf_226_4 at hf
  obtain ⟨d', rfl⟩ : ∃ d', d = d' + 1 := ⟨d - 1, by omega⟩
  refine cb_226_4 hR  (fun {h} hR => ?_)
  rcases ko_call_ok hf with ⟨g1, v1, er, hf⟩ | ⟨g1, er, hq⟩
  · obtain ⟨y, hv, hf2⟩ := co_i_ok hf
    clear hf
    have hf := hf2
    clear hf2
    subst hv
    refine cr_255 (by omega) hR er (fun h hR => ?_)
    exact cr_226_10 hd hR hf k
  · refine cr_255 (by omega) hR er (fun h hR => ?_)
    exact ko_thrown hq hR k
def cf_226_0 (N : Nat) (X : Nat → Option zz_C) (x1 : Int64) (x3 : Int64) (t : cS) : kO := ko_call 1000 (cf_255 N X x1 t) (fun g1 v1 => co_i v1 (fun y => cf_226_4 N X x1 x3 y g1))
theorem cr_226_0 {X : Nat → Option zz_C} {s : mS} {N : Nat} {d : Nat} (hd : 3 ≤ d) {Q : zz_O → zz_H → Prop} {x1 : Int64} {x3 : Int64} {h : zz_H} {t t' : cS} {o : kY} (hR : kR h t s) (hf : cf_226_0 N X x1 x3 t = some (t', o)) (k : (∀ h', kR h' t' s → kE o Q h')) : zz_J zp_P zt_tf zt_fd X d zm_226 0 [(0, .ref 58), (1, .long x1), (3, .long x3)] [] h Q := by
  unfold cf_226_0 at hf
  obtain ⟨d', rfl⟩ : ∃ d', d = d' + 1 := ⟨d - 1, by omega⟩
  refine cb_226_0 hR  (fun {h} hR => ?_)
  rcases ko_call_ok hf with ⟨g1, v1, er, hf⟩ | ⟨g1, er, hq⟩
  · obtain ⟨y, hv, hf2⟩ := co_i_ok hf
    clear hf
    have hf := hf2
    clear hf2
    subst hv
    refine cr_255 (by omega) hR er (fun h hR => ?_)
    exact cr_226_4 hd hR hf k
  · refine cr_255 (by omega) hR er (fun h hR => ?_)
    exact ko_thrown hq hR k
/-- unlike -/
def cf_226 (N : Nat) (X : Nat → Option zz_C) (x1 : Int64) (x3 : Int64) (t : cS) : kO := cf_226_0 N X x1 x3 t
theorem cr_226 {X : Nat → Option zz_C} {s : mS} {N : Nat} {d : Nat} (hd : 3 ≤ d) {Q : zz_O → zz_H → Prop} {x1 : Int64} {x3 : Int64} {h : zz_H} {t t' : cS} {o : kY} (hR : kR h t s) (hf : cf_226 N X x1 x3 t = some (t', o)) (k : ∀ h', kR h' t' s → kE o Q h') : zz_J zp_P zt_tf zt_fd X d zm_226 0 [(0, .ref 58), (1, .long x1), (3, .long x3)] [] h Q := by
  unfold cf_226 at hf
  exact zz_J.weak (cr_226_0 hd hR hf k) rfl ⟨rfl, rfl, rfl, trivial⟩
/-! yX2_intAt (JI)I -/
theorem cb_130_0 {X : Nat → Option zz_C} {h : zz_H} {t : cS} {s : mS} {d : Nat} {Q : zz_O → zz_H → Prop} {x1 : Int64} {x3 : Int32} (hR : kR h t s) (k1 : ¬ (lg_cmp (x1 >>> (Int32.toInt64 32 &&& 63)) 0) = 0 → (∀ {h : zz_H}, kR h t s → zz_J zp_P zt_tf zt_fd X d zm_130 12 [(0, .ref 42), (1, .long x1), (3, .int x3)] [] h Q)) (k2 : ¬ ¬ (lg_cmp (x1 >>> (Int32.toInt64 32 &&& 63)) 0) = 0 → (∀ {h : zz_H}, kR h t s → zz_J zp_P zt_tf zt_fd X d zm_130 9 [(1, .long x1)] [] h Q)) : zz_J zp_P zt_tf zt_fd X d zm_130 0 [(0, .ref 42), (1, .long x1), (3, .int x3)] [] h Q := by
  refine zz_J.n 1 rfl rfl rfl ?_
  refine zz_J.c 3 (.int 32) rfl rfl rfl rfl ?_
  refine zz_J.n 4 rfl rfl rfl ?_
  refine zz_J.c 5 (.long 0) rfl rfl rfl rfl ?_
  refine zz_J.n 6 rfl rfl rfl ?_
  refine zz_J.b1 12 9 (A := ¬ (lg_cmp (x1 >>> (Int32.toInt64 32 &&& 63)) 0) = 0) rfl (zz_cond_ne _ _) (by decide) rfl rfl (fun c => ?_) (fun c => ?_)
  · exact zz_J.weak (k1 c hR) rfl ⟨rfl, rfl, rfl, trivial⟩
  · exact zz_J.weak (k2 c hR) rfl ⟨rfl, trivial⟩
theorem cb_130_9 {X : Nat → Option zz_C} {h : zz_H} {t : cS} {s : mS} {d : Nat} {Q : zz_O → zz_H → Prop} {x1 : Int64} (hR : kR h t s) (k : ∀ {h : zz_H}, kR h t s → Q (.inl (some (.int (Int64.toInt32 x1)))) h) : zz_J zp_P zt_tf zt_fd X d zm_130 9 [(1, .long x1)] [] h Q := by
  refine zz_J.n 10 rfl rfl rfl ?_
  refine zz_J.n 11 rfl rfl rfl ?_
  refine zz_J.ret rfl rfl rfl ?_
  exact k hR
theorem cb_130_12 {X : Nat → Option zz_C} {h : zz_H} {t : cS} {s : mS} {d : Nat} {Q : zz_O → zz_H → Prop} {x1 : Int64} {x3 : Int32} (hR : kR h t s) (k1 : (((Int64.toInt32 x1) + 1) + x3) < 0 → (∀ {h : zz_H}, kR h t s → zz_J zp_P zt_tf zt_fd X d zm_130 45 [] [] h Q)) (k2 : ¬ (((Int64.toInt32 x1) + 1) + x3) < 0 → (∀ {h : zz_H}, kR h t s → zz_J zp_P zt_tf zt_fd X d zm_130 25 [(0, .ref 42), (4, .int (((Int64.toInt32 x1) + 1) + x3))] [] h Q)) : zz_J zp_P zt_tf zt_fd X d zm_130 12 [(0, .ref 42), (1, .long x1), (3, .int x3)] [] h Q := by
  refine zz_J.n 13 rfl rfl rfl ?_
  refine zz_J.n 14 rfl rfl rfl ?_
  refine zz_J.c 15 (.int 1) rfl rfl rfl rfl ?_
  refine zz_J.n 16 rfl rfl rfl ?_
  refine zz_J.n 17 rfl rfl rfl ?_
  refine zz_J.n 18 rfl rfl rfl ?_
  refine zz_J.n 20 rfl rfl rfl ?_
  refine zz_J.n 22 rfl rfl rfl ?_
  refine zz_J.b1 45 25 (A := (((Int64.toInt32 x1) + 1) + x3) < 0) rfl rfl (by decide) rfl rfl (fun c => ?_) (fun c => ?_)
  · exact zz_J.weak (k1 c hR) rfl trivial
  · exact zz_J.weak (k2 c hR) rfl ⟨rfl, rfl, trivial⟩
theorem cb_130_25 {X : Nat → Option zz_C} {h : zz_H} {t : cS} {s : mS} {d : Nat} {Q : zz_O → zz_H → Prop} {x4 : Int32} (hR : kR h t s) (k1 : (kI t 42 1) ≤ x4 → (∀ {h : zz_H}, kR h t s → zz_J zp_P zt_tf zt_fd X d zm_130 45 [] [] h Q)) (k2 : ¬ (kI t 42 1) ≤ x4 → (∀ {h : zz_H}, kR h t s → zz_J zp_P zt_tf zt_fd X d zm_130 34 [(0, .ref 42), (4, .int x4)] [] h Q)) : zz_J zp_P zt_tf zt_fd X d zm_130 25 [(0, .ref 42), (4, .int x4)] [] h Q := by
  refine zz_J.n 27 rfl rfl rfl ?_
  refine zz_J.n 28 rfl rfl rfl ?_
  refine zz_J.g 31 rfl (hR.gv (v := .int (kI t 42 1)) ko_42 (by decide) rfl) rfl ?_
  refine zz_J.b2 45 34 (A := (kI t 42 1) ≤ x4) rfl rfl (by decide) rfl rfl (fun c => ?_) (fun c => ?_)
  · exact zz_J.weak (k1 c hR) rfl trivial
  · exact zz_J.weak (k2 c hR) rfl ⟨rfl, rfl, trivial⟩
theorem cb_130_34 {X : Nat → Option zz_C} {h : zz_H} {t : cS} {s : mS} {d : Nat} {Q : zz_O → zz_H → Prop} {x4 : Int32} (hR : kR h t s) (e0 : ¬ (x4 < 0 ∨ (kB t 43).1 ≤ (Int32.toNatClampNeg x4))) (k : ∀ {h : zz_H}, kR h t s → zz_J zp_P zt_tf zt_fd X d zm_130 46 [] [.int (Int64.toInt32 ((kB t 43).2 (Int32.toNatClampNeg x4)))] h Q) : zz_J zp_P zt_tf zt_fd X d zm_130 34 [(0, .ref 42), (4, .int x4)] [] h Q := by
  refine zz_J.n 35 rfl rfl rfl ?_
  refine zz_J.g 38 rfl (hR.gv (v := .ref (kD t 43)) ko_42 (by decide) rfl) rfl ?_
  refine zz_J.n 40 rfl rfl rfl ?_
  refine zz_J.al 41 rfl (hR.al (w := ((kB t 43).2 (Int32.toNatClampNeg x4))) ka_43 rfl e0 rfl) rfl ?_
  refine zz_J.n 42 rfl rfl rfl ?_
  refine zz_J.n 46 rfl rfl rfl ?_
  exact zz_J.weak (k hR) rfl trivial
theorem cb_130_45 {X : Nat → Option zz_C} {h : zz_H} {t : cS} {s : mS} {d : Nat} {Q : zz_O → zz_H → Prop}  (hR : kR h t s) (k : ∀ {h : zz_H}, kR h t s → zz_J zp_P zt_tf zt_fd X d zm_130 46 [] [.int 0] h Q) : zz_J zp_P zt_tf zt_fd X d zm_130 45 [] [] h Q := by
  refine zz_J.c 46 (.int 0) rfl rfl rfl rfl ?_
  exact zz_J.weak (k hR) rfl trivial
theorem cb_130_46 {X : Nat → Option zz_C} {h : zz_H} {t : cS} {s : mS} {d : Nat} {Q : zz_O → zz_H → Prop} {y0 : Int32} (hR : kR h t s) (k : ∀ {h : zz_H}, kR h t s → Q (.inl (some (.int y0))) h) : zz_J zp_P zt_tf zt_fd X d zm_130 46 [] [.int y0] h Q := by
  refine zz_J.ret rfl rfl rfl ?_
  exact k hR
def cf_130_46 (N : Nat) (X : Nat → Option zz_C) (y0 : Int32) (t : cS) : kO := some (t, .inl (some (.int y0)))
theorem cr_130_46 {X : Nat → Option zz_C} {s : mS} {N : Nat} {d : Nat} (hd : 0 ≤ d) {Q : zz_O → zz_H → Prop} {y0 : Int32} {h : zz_H} {t t' : cS} {o : kY} (hR : kR h t s) (hf : cf_130_46 N X y0 t = some (t', o)) (k : (∀ h', kR h' t' s → kE o Q h')) : zz_J zp_P zt_tf zt_fd X d zm_130 46 [] [.int y0] h Q := by
  unfold cf_130_46 at hf
  cases hf
  exact cb_130_46 hR  (fun {h} hR => k h hR)
def cf_130_45 (N : Nat) (X : Nat → Option zz_C)  (t : cS) : kO := cf_130_46 N X 0 t
theorem cr_130_45 {X : Nat → Option zz_C} {s : mS} {N : Nat} {d : Nat} (hd : 0 ≤ d) {Q : zz_O → zz_H → Prop}  {h : zz_H} {t t' : cS} {o : kY} (hR : kR h t s) (hf : cf_130_45 N X  t = some (t', o)) (k : (∀ h', kR h' t' s → kE o Q h')) : zz_J zp_P zt_tf zt_fd X d zm_130 45 [] [] h Q := by
  unfold cf_130_45 at hf
  exact cb_130_45 hR  (fun hR => cr_130_46 hd hR hf k)
def cf_130_34 (N : Nat) (X : Nat → Option zz_C) (x4 : Int32) (t : cS) : kO := if ¬ (x4 < 0 ∨ (kB t 43).1 ≤ (Int32.toNatClampNeg x4)) then (cf_130_46 N X (Int64.toInt32 ((kB t 43).2 (Int32.toNatClampNeg x4))) t) else none
theorem cr_130_34 {X : Nat → Option zz_C} {s : mS} {N : Nat} {d : Nat} (hd : 0 ≤ d) {Q : zz_O → zz_H → Prop} {x4 : Int32} {h : zz_H} {t t' : cS} {o : kY} (hR : kR h t s) (hf : cf_130_34 N X x4 t = some (t', o)) (k : (∀ h', kR h' t' s → kE o Q h')) : zz_J zp_P zt_tf zt_fd X d zm_130 34 [(0, .ref 42), (4, .int x4)] [] h Q := by
  unfold cf_130_34 at hf
  obtain ⟨e0, hf⟩ := ko_if hf
  exact cb_130_34 hR e0 (fun hR => cr_130_46 hd hR hf k)
def cf_130_25 (N : Nat) (X : Nat → Option zz_C) (x4 : Int32) (t : cS) : kO := if (kI t 42 1) ≤ x4 then cf_130_45 N X  t else cf_130_34 N X x4 t
theorem cr_130_25 {X : Nat → Option zz_C} {s : mS} {N : Nat} {d : Nat} (hd : 0 ≤ d) {Q : zz_O → zz_H → Prop} {x4 : Int32} {h : zz_H} {t t' : cS} {o : kY} (hR : kR h t s) (hf : cf_130_25 N X x4 t = some (t', o)) (k : (∀ h', kR h' t' s → kE o Q h')) : zz_J zp_P zt_tf zt_fd X d zm_130 25 [(0, .ref 42), (4, .int x4)] [] h Q := by
  unfold cf_130_25 at hf
  refine cb_130_25 hR  (fun c {h} hR => ?_) (fun c {h} hR => ?_)
  · rw [if_pos c] at hf
    exact cr_130_45 hd hR hf k
  · rw [if_neg c] at hf
    exact cr_130_34 hd hR hf k
def cf_130_12 (N : Nat) (X : Nat → Option zz_C) (x1 : Int64) (x3 : Int32) (t : cS) : kO := if (((Int64.toInt32 x1) + 1) + x3) < 0 then cf_130_45 N X  t else cf_130_25 N X (((Int64.toInt32 x1) + 1) + x3) t
theorem cr_130_12 {X : Nat → Option zz_C} {s : mS} {N : Nat} {d : Nat} (hd : 0 ≤ d) {Q : zz_O → zz_H → Prop} {x1 : Int64} {x3 : Int32} {h : zz_H} {t t' : cS} {o : kY} (hR : kR h t s) (hf : cf_130_12 N X x1 x3 t = some (t', o)) (k : (∀ h', kR h' t' s → kE o Q h')) : zz_J zp_P zt_tf zt_fd X d zm_130 12 [(0, .ref 42), (1, .long x1), (3, .int x3)] [] h Q := by
  unfold cf_130_12 at hf
  refine cb_130_12 hR  (fun c {h} hR => ?_) (fun c {h} hR => ?_)
  · rw [if_pos c] at hf
    exact cr_130_45 hd hR hf k
  · rw [if_neg c] at hf
    exact cr_130_25 hd hR hf k
def cf_130_9 (N : Nat) (X : Nat → Option zz_C) (x1 : Int64) (t : cS) : kO := some (t, .inl (some (.int (Int64.toInt32 x1))))
theorem cr_130_9 {X : Nat → Option zz_C} {s : mS} {N : Nat} {d : Nat} (hd : 0 ≤ d) {Q : zz_O → zz_H → Prop} {x1 : Int64} {h : zz_H} {t t' : cS} {o : kY} (hR : kR h t s) (hf : cf_130_9 N X x1 t = some (t', o)) (k : (∀ h', kR h' t' s → kE o Q h')) : zz_J zp_P zt_tf zt_fd X d zm_130 9 [(1, .long x1)] [] h Q := by
  unfold cf_130_9 at hf
  cases hf
  exact cb_130_9 hR  (fun {h} hR => k h hR)
def cf_130_0 (N : Nat) (X : Nat → Option zz_C) (x1 : Int64) (x3 : Int32) (t : cS) : kO := if ¬ (lg_cmp (x1 >>> (Int32.toInt64 32 &&& 63)) 0) = 0 then cf_130_12 N X x1 x3 t else cf_130_9 N X x1 t
theorem cr_130_0 {X : Nat → Option zz_C} {s : mS} {N : Nat} {d : Nat} (hd : 0 ≤ d) {Q : zz_O → zz_H → Prop} {x1 : Int64} {x3 : Int32} {h : zz_H} {t t' : cS} {o : kY} (hR : kR h t s) (hf : cf_130_0 N X x1 x3 t = some (t', o)) (k : (∀ h', kR h' t' s → kE o Q h')) : zz_J zp_P zt_tf zt_fd X d zm_130 0 [(0, .ref 42), (1, .long x1), (3, .int x3)] [] h Q := by
  unfold cf_130_0 at hf
  refine cb_130_0 hR  (fun c {h} hR => ?_) (fun c {h} hR => ?_)
  · rw [if_pos c] at hf
    exact cr_130_12 hd hR hf k
  · rw [if_neg c] at hf
    exact cr_130_9 hd hR hf k
/-- intAt -/
def cf_130 (N : Nat) (X : Nat → Option zz_C) (x1 : Int64) (x3 : Int32) (t : cS) : kO := cf_130_0 N X x1 x3 t
theorem cr_130 {X : Nat → Option zz_C} {s : mS} {N : Nat} {d : Nat} (hd : 0 ≤ d) {Q : zz_O → zz_H → Prop} {x1 : Int64} {x3 : Int32} {h : zz_H} {t t' : cS} {o : kY} (hR : kR h t s) (hf : cf_130 N X x1 x3 t = some (t', o)) (k : ∀ h', kR h' t' s → kE o Q h') : zz_J zp_P zt_tf zt_fd X d zm_130 0 [(0, .ref 42), (1, .long x1), (3, .int x3)] [] h Q := by
  unfold cf_130 at hf
  exact zz_J.weak (cr_130_0 hd hR hf k) rfl ⟨rfl, rfl, rfl, trivial⟩
/-! yX8_divide (III)I -/
theorem cb_231_0 {X : Nat → Option zz_C} {h : zz_H} {t : cS} {s : mS} {d : Nat} {Q : zz_O → zz_H → Prop} {x1 : Int32} {x2 : Int32} {x3 : Int32} (hR : kR h t s) (k1 : ¬ x3 = 0 → (∀ {h : zz_H}, kR h t s → zz_J zp_P zt_tf zt_fd X d zm_231 11 [(1, .int x1), (2, .int x2), (3, .int x3)] [] h Q)) (k2 : ¬ ¬ x3 = 0 → (∀ {h : zz_H}, kR h t s → zz_J zp_P zt_tf zt_fd X d zm_231 4 [(0, .ref 58)] [] h Q)) : zz_J zp_P zt_tf zt_fd X d zm_231 0 [(0, .ref 58), (1, .int x1), (2, .int x2), (3, .int x3)] [] h Q := by
  refine zz_J.n 1 rfl rfl rfl ?_
  refine zz_J.b1 11 4 (A := ¬ x3 = 0) rfl (zz_cond_ne _ _) (by decide) rfl rfl (fun c => ?_) (fun c => ?_)
  · exact zz_J.weak (k1 c hR) rfl ⟨rfl, rfl, rfl, trivial⟩
  · exact zz_J.weak (k2 c hR) rfl ⟨rfl, trivial⟩
theorem cb_231_4 {X : Nat → Option zz_C} {h : zz_H} {t : cS} {s : mS} {d : Nat} {Q : zz_O → zz_H → Prop}  (hR : kR h t s) (k : ∀ {h : zz_H}, kR h (jI t 58 1 1) s → Q (.inl (some (.int 0))) h) : zz_J zp_P zt_tf zt_fd X d zm_231 4 [(0, .ref 58)] [] h Q := by
  refine zz_J.n 5 rfl rfl rfl ?_
  refine zz_J.c 6 (.int 1) rfl rfl rfl rfl ?_
  obtain ⟨h1, eq1, hR⟩ := hR.pI (x := (1 : Int32)) (by decide) ko_58 (kpi_58_1 _) (Nat.le_of_ble_eq_true rfl) rfl
  refine zz_J.pv 9 rfl eq1 rfl ?_
  clear eq1
  refine zz_J.c 10 (.int 0) rfl rfl rfl rfl ?_
  refine zz_J.ret rfl rfl rfl ?_
  exact k hR
theorem cb_231_11 {X : Nat → Option zz_C} {h : zz_H} {t : cS} {s : mS} {d : Nat} {Q : zz_O → zz_H → Prop} {x1 : Int32} {x2 : Int32} {x3 : Int32} (hR : kR h t s) (k1 : ¬ x1 = 47 → (∀ {h : zz_H}, kR h t s → zz_J zp_P zt_tf zt_fd X d zm_231 23 [(2, .int x2), (3, .int x3)] [] h Q)) (k2 : ¬ ¬ x1 = 47 → (∀ {h : zz_H}, kR h t s → zz_J zp_P zt_tf zt_fd X d zm_231 17 [(2, .int x2), (3, .int x3)] [] h Q)) : zz_J zp_P zt_tf zt_fd X d zm_231 11 [(1, .int x1), (2, .int x2), (3, .int x3)] [] h Q := by
  refine zz_J.n 12 rfl rfl rfl ?_
  refine zz_J.c 14 (.int 47) rfl rfl rfl rfl ?_
  refine zz_J.b2 23 17 (A := ¬ x1 = 47) rfl (zz_cond_ne _ _) (by decide) rfl rfl (fun c => ?_) (fun c => ?_)
  · exact zz_J.weak (k1 c hR) rfl ⟨rfl, rfl, trivial⟩
  · exact zz_J.weak (k2 c hR) rfl ⟨rfl, rfl, trivial⟩
theorem cb_231_17 {X : Nat → Option zz_C} {h : zz_H} {t : cS} {s : mS} {d : Nat} {Q : zz_O → zz_H → Prop} {x2 : Int32} {x3 : Int32} (hR : kR h t s) (e0 : ¬ (x3 : Int32) = 0) (k : ∀ {h : zz_H}, kR h t s → zz_J zp_P zt_tf zt_fd X d zm_231 26 [] [.int (x2 / x3)] h Q) : zz_J zp_P zt_tf zt_fd X d zm_231 17 [(2, .int x2), (3, .int x3)] [] h Q := by
  refine zz_J.n 18 rfl rfl rfl ?_
  refine zz_J.n 19 rfl rfl rfl ?_
  refine zz_J.idv 20 rfl e0 rfl ?_
  refine zz_J.n 26 rfl rfl rfl ?_
  exact zz_J.weak (k hR) rfl trivial
theorem cb_231_23 {X : Nat → Option zz_C} {h : zz_H} {t : cS} {s : mS} {d : Nat} {Q : zz_O → zz_H → Prop} {x2 : Int32} {x3 : Int32} (hR : kR h t s) (e0 : ¬ (x3 : Int32) = 0) (k : ∀ {h : zz_H}, kR h t s → zz_J zp_P zt_tf zt_fd X d zm_231 26 [] [.int (x2 - x2 / x3 * x3)] h Q) : zz_J zp_P zt_tf zt_fd X d zm_231 23 [(2, .int x2), (3, .int x3)] [] h Q := by
  refine zz_J.n 24 rfl rfl rfl ?_
  refine zz_J.n 25 rfl rfl rfl ?_
  refine zz_J.idr 26 rfl e0 rfl ?_
  exact zz_J.weak (k hR) rfl trivial
theorem cb_231_26 {X : Nat → Option zz_C} {h : zz_H} {t : cS} {s : mS} {d : Nat} {Q : zz_O → zz_H → Prop} {y0 : Int32} (hR : kR h t s) (k : ∀ {h : zz_H}, kR h t s → Q (.inl (some (.int y0))) h) : zz_J zp_P zt_tf zt_fd X d zm_231 26 [] [.int y0] h Q := by
  refine zz_J.ret rfl rfl rfl ?_
  exact k hR
def cf_231_26 (N : Nat) (X : Nat → Option zz_C) (y0 : Int32) (t : cS) : kO := some (t, .inl (some (.int y0)))
theorem cr_231_26 {X : Nat → Option zz_C} {s : mS} {N : Nat} {d : Nat} (hd : 0 ≤ d) {Q : zz_O → zz_H → Prop} {y0 : Int32} {h : zz_H} {t t' : cS} {o : kY} (hR : kR h t s) (hf : cf_231_26 N X y0 t = some (t', o)) (k : (∀ h', kR h' t' s → kE o Q h')) : zz_J zp_P zt_tf zt_fd X d zm_231 26 [] [.int y0] h Q := by
  unfold cf_231_26 at hf
  cases hf
  exact cb_231_26 hR  (fun {h} hR => k h hR)
def cf_231_23 (N : Nat) (X : Nat → Option zz_C) (x2 : Int32) (x3 : Int32) (t : cS) : kO := if ¬ (x3 : Int32) = 0 then (cf_231_26 N X (x2 - x2 / x3 * x3) t) else none
theorem cr_231_23 {X : Nat → Option zz_C} {s : mS} {N : Nat} {d : Nat} (hd : 0 ≤ d) {Q : zz_O → zz_H → Prop} {x2 : Int32} {x3 : Int32} {h : zz_H} {t t' : cS} {o : kY} (hR : kR h t s) (hf : cf_231_23 N X x2 x3 t = some (t', o)) (k : (∀ h', kR h' t' s → kE o Q h')) : zz_J zp_P zt_tf zt_fd X d zm_231 23 [(2, .int x2), (3, .int x3)] [] h Q := by
  unfold cf_231_23 at hf
  obtain ⟨e0, hf⟩ := ko_if hf
  exact cb_231_23 hR e0 (fun hR => cr_231_26 hd hR hf k)
def cf_231_17 (N : Nat) (X : Nat → Option zz_C) (x2 : Int32) (x3 : Int32) (t : cS) : kO := if ¬ (x3 : Int32) = 0 then (cf_231_26 N X (x2 / x3) t) else none
theorem cr_231_17 {X : Nat → Option zz_C} {s : mS} {N : Nat} {d : Nat} (hd : 0 ≤ d) {Q : zz_O → zz_H → Prop} {x2 : Int32} {x3 : Int32} {h : zz_H} {t t' : cS} {o : kY} (hR : kR h t s) (hf : cf_231_17 N X x2 x3 t = some (t', o)) (k : (∀ h', kR h' t' s → kE o Q h')) : zz_J zp_P zt_tf zt_fd X d zm_231 17 [(2, .int x2), (3, .int x3)] [] h Q := by
  unfold cf_231_17 at hf
  obtain ⟨e0, hf⟩ := ko_if hf
  exact cb_231_17 hR e0 (fun hR => cr_231_26 hd hR hf k)
def cf_231_11 (N : Nat) (X : Nat → Option zz_C) (x1 : Int32) (x2 : Int32) (x3 : Int32) (t : cS) : kO := if ¬ x1 = 47 then cf_231_23 N X x2 x3 t else cf_231_17 N X x2 x3 t
theorem cr_231_11 {X : Nat → Option zz_C} {s : mS} {N : Nat} {d : Nat} (hd : 0 ≤ d) {Q : zz_O → zz_H → Prop} {x1 : Int32} {x2 : Int32} {x3 : Int32} {h : zz_H} {t t' : cS} {o : kY} (hR : kR h t s) (hf : cf_231_11 N X x1 x2 x3 t = some (t', o)) (k : (∀ h', kR h' t' s → kE o Q h')) : zz_J zp_P zt_tf zt_fd X d zm_231 11 [(1, .int x1), (2, .int x2), (3, .int x3)] [] h Q := by
  unfold cf_231_11 at hf
  refine cb_231_11 hR  (fun c {h} hR => ?_) (fun c {h} hR => ?_)
  · rw [if_pos c] at hf
    exact cr_231_23 hd hR hf k
  · rw [if_neg c] at hf
    exact cr_231_17 hd hR hf k
def cf_231_4 (N : Nat) (X : Nat → Option zz_C)  (t : cS) : kO := some ((jI t 58 1 1), .inl (some (.int 0)))
theorem cr_231_4 {X : Nat → Option zz_C} {s : mS} {N : Nat} {d : Nat} (hd : 0 ≤ d) {Q : zz_O → zz_H → Prop}  {h : zz_H} {t t' : cS} {o : kY} (hR : kR h t s) (hf : cf_231_4 N X  t = some (t', o)) (k : (∀ h', kR h' t' s → kE o Q h')) : zz_J zp_P zt_tf zt_fd X d zm_231 4 [(0, .ref 58)] [] h Q := by
  unfold cf_231_4 at hf
  cases hf
  exact cb_231_4 hR  (fun {h} hR => k h hR)
def cf_231_0 (N : Nat) (X : Nat → Option zz_C) (x1 : Int32) (x2 : Int32) (x3 : Int32) (t : cS) : kO := if ¬ x3 = 0 then cf_231_11 N X x1 x2 x3 t else cf_231_4 N X  t
theorem cr_231_0 {X : Nat → Option zz_C} {s : mS} {N : Nat} {d : Nat} (hd : 0 ≤ d) {Q : zz_O → zz_H → Prop} {x1 : Int32} {x2 : Int32} {x3 : Int32} {h : zz_H} {t t' : cS} {o : kY} (hR : kR h t s) (hf : cf_231_0 N X x1 x2 x3 t = some (t', o)) (k : (∀ h', kR h' t' s → kE o Q h')) : zz_J zp_P zt_tf zt_fd X d zm_231 0 [(0, .ref 58), (1, .int x1), (2, .int x2), (3, .int x3)] [] h Q := by
  unfold cf_231_0 at hf
  refine cb_231_0 hR  (fun c {h} hR => ?_) (fun c {h} hR => ?_)
  · rw [if_pos c] at hf
    exact cr_231_11 hd hR hf k
  · rw [if_neg c] at hf
    exact cr_231_4 hd hR hf k
/-- divide -/
def cf_231 (N : Nat) (X : Nat → Option zz_C) (x1 : Int32) (x2 : Int32) (x3 : Int32) (t : cS) : kO := cf_231_0 N X x1 x2 x3 t
theorem cr_231 {X : Nat → Option zz_C} {s : mS} {N : Nat} {d : Nat} (hd : 0 ≤ d) {Q : zz_O → zz_H → Prop} {x1 : Int32} {x2 : Int32} {x3 : Int32} {h : zz_H} {t t' : cS} {o : kY} (hR : kR h t s) (hf : cf_231 N X x1 x2 x3 t = some (t', o)) (k : ∀ h', kR h' t' s → kE o Q h') : zz_J zp_P zt_tf zt_fd X d zm_231 0 [(0, .ref 58), (1, .int x1), (2, .int x2), (3, .int x3)] [] h Q := by
  unfold cf_231 at hf
  exact zz_J.weak (cr_231_0 hd hR hf k) rfl ⟨rfl, rfl, rfl, rfl, trivial⟩
/-! yX8_compares (III)Z -/
theorem cb_232_0 {X : Nat → Option zz_C} {h : zz_H} {t : cS} {s : mS} {d : Nat} {Q : zz_O → zz_H → Prop} {x0 : Int32} {x1 : Int32} {x2 : Int32} (hR : kR h t s) (c60 : x0 = 60 → (∀ {h : zz_H}, kR h t s → zz_J zp_P zt_tf zt_fd X d zm_232 52 [(1, .int x1), (2, .int x2)] [] h Q)) (c62 : x0 = 62 → (∀ {h : zz_H}, kR h t s → zz_J zp_P zt_tf zt_fd X d zm_232 74 [(1, .int x1), (2, .int x2)] [] h Q)) (c289 : x0 = 289 → (∀ {h : zz_H}, kR h t s → zz_J zp_P zt_tf zt_fd X d zm_232 96 [(1, .int x1), (2, .int x2)] [] h Q)) (c316 : x0 = 316 → (∀ {h : zz_H}, kR h t s → zz_J zp_P zt_tf zt_fd X d zm_232 63 [(1, .int x1), (2, .int x2)] [] h Q)) (c318 : x0 = 318 → (∀ {h : zz_H}, kR h t s → zz_J zp_P zt_tf zt_fd X d zm_232 85 [(1, .int x1), (2, .int x2)] [] h Q)) (kd : (¬ x0 = 60 ∧ ¬ x0 = 62 ∧ ¬ x0 = 289 ∧ ¬ x0 = 316 ∧ ¬ x0 = 318) → (∀ {h : zz_H}, kR h t s → zz_J zp_P zt_tf zt_fd X d zm_232 107 [(1, .int x1), (2, .int x2)] [] h Q)) : zz_J zp_P zt_tf zt_fd X d zm_232 0 [(0, .int x0), (1, .int x1), (2, .int x2)] [] h Q := by
  refine zz_J.n 1 rfl rfl rfl ?_
  by_cases g60 : x0 = 60
  · exact zz_J.lk 52 51 rfl (by rw [g60]; rfl) (by decide) (by decide) rfl (zz_J.weak (c60 g60 hR) rfl ⟨rfl, rfl, trivial⟩)
  by_cases g62 : x0 = 62
  · exact zz_J.lk 74 73 rfl (by rw [g62]; rfl) (by decide) (by decide) rfl (zz_J.weak (c62 g62 hR) rfl ⟨rfl, rfl, trivial⟩)
  by_cases g289 : x0 = 289
  · exact zz_J.lk 96 95 rfl (by rw [g289]; rfl) (by decide) (by decide) rfl (zz_J.weak (c289 g289 hR) rfl ⟨rfl, rfl, trivial⟩)
  by_cases g316 : x0 = 316
  · exact zz_J.lk 63 62 rfl (by rw [g316]; rfl) (by decide) (by decide) rfl (zz_J.weak (c316 g316 hR) rfl ⟨rfl, rfl, trivial⟩)
  by_cases g318 : x0 = 318
  · exact zz_J.lk 85 84 rfl (by rw [g318]; rfl) (by decide) (by decide) rfl (zz_J.weak (c318 g318 hR) rfl ⟨rfl, rfl, trivial⟩)
  refine zz_J.lk 107 106 rfl ?_ (by decide) (by decide) rfl (zz_J.weak (kd ⟨g60, g62, g289, g316, g318⟩ hR) rfl ⟨rfl, rfl, trivial⟩)
  refine (if_neg (fun q => g60 (Int32.toInt_inj.mp (q.symm.trans rfl)))).trans ?_
  refine (if_neg (fun q => g62 (Int32.toInt_inj.mp (q.symm.trans rfl)))).trans ?_
  refine (if_neg (fun q => g289 (Int32.toInt_inj.mp (q.symm.trans rfl)))).trans ?_
  refine (if_neg (fun q => g316 (Int32.toInt_inj.mp (q.symm.trans rfl)))).trans ?_
  refine (if_neg (fun q => g318 (Int32.toInt_inj.mp (q.symm.trans rfl)))).trans ?_
  rfl
theorem cb_232_52 {X : Nat → Option zz_C} {h : zz_H} {t : cS} {s : mS} {d : Nat} {Q : zz_O → zz_H → Prop} {x1 : Int32} {x2 : Int32} (hR : kR h t s) (k1 : x2 ≤ x1 → (∀ {h : zz_H}, kR h t s → zz_J zp_P zt_tf zt_fd X d zm_232 61 [] [] h Q)) (k2 : ¬ x2 ≤ x1 → (∀ {h : zz_H}, kR h t s → zz_J zp_P zt_tf zt_fd X d zm_232 57 [] [] h Q)) : zz_J zp_P zt_tf zt_fd X d zm_232 52 [(1, .int x1), (2, .int x2)] [] h Q := by
  refine zz_J.n 53 rfl rfl rfl ?_
  refine zz_J.n 54 rfl rfl rfl ?_
  refine zz_J.b2 61 57 (A := x2 ≤ x1) rfl rfl (by decide) rfl rfl (fun c => ?_) (fun c => ?_)
  · exact zz_J.weak (k1 c hR) rfl trivial
  · exact zz_J.weak (k2 c hR) rfl trivial
theorem cb_232_57 {X : Nat → Option zz_C} {h : zz_H} {t : cS} {s : mS} {d : Nat} {Q : zz_O → zz_H → Prop}  (hR : kR h t s) (k : ∀ {h : zz_H}, kR h t s → zz_J zp_P zt_tf zt_fd X d zm_232 62 [] [.int 1] h Q) : zz_J zp_P zt_tf zt_fd X d zm_232 57 [] [] h Q := by
  refine zz_J.c 58 (.int 1) rfl rfl rfl rfl ?_
  refine zz_J.n 62 rfl rfl rfl ?_
  exact zz_J.weak (k hR) rfl trivial
theorem cb_232_61 {X : Nat → Option zz_C} {h : zz_H} {t : cS} {s : mS} {d : Nat} {Q : zz_O → zz_H → Prop}  (hR : kR h t s) (k : ∀ {h : zz_H}, kR h t s → zz_J zp_P zt_tf zt_fd X d zm_232 62 [] [.int 0] h Q) : zz_J zp_P zt_tf zt_fd X d zm_232 61 [] [] h Q := by
  refine zz_J.c 62 (.int 0) rfl rfl rfl rfl ?_
  exact zz_J.weak (k hR) rfl trivial
theorem cb_232_62 {X : Nat → Option zz_C} {h : zz_H} {t : cS} {s : mS} {d : Nat} {Q : zz_O → zz_H → Prop} {y0 : Int32} (hR : kR h t s) (k : ∀ {h : zz_H}, kR h t s → Q (.inl (some (.int y0))) h) (rb : zz_reti (some .boolean) y0 = true) : zz_J zp_P zt_tf zt_fd X d zm_232 62 [] [.int y0] h Q := by
  refine zz_J.ret rfl rfl (if_pos ⟨rfl, rb⟩) ?_
  exact k hR
theorem cb_232_63 {X : Nat → Option zz_C} {h : zz_H} {t : cS} {s : mS} {d : Nat} {Q : zz_O → zz_H → Prop} {x1 : Int32} {x2 : Int32} (hR : kR h t s) (k1 : x2 < x1 → (∀ {h : zz_H}, kR h t s → zz_J zp_P zt_tf zt_fd X d zm_232 72 [] [] h Q)) (k2 : ¬ x2 < x1 → (∀ {h : zz_H}, kR h t s → zz_J zp_P zt_tf zt_fd X d zm_232 68 [] [] h Q)) : zz_J zp_P zt_tf zt_fd X d zm_232 63 [(1, .int x1), (2, .int x2)] [] h Q := by
  refine zz_J.n 64 rfl rfl rfl ?_
  refine zz_J.n 65 rfl rfl rfl ?_
  refine zz_J.b2 72 68 (A := x2 < x1) rfl rfl (by decide) rfl rfl (fun c => ?_) (fun c => ?_)
  · exact zz_J.weak (k1 c hR) rfl trivial
  · exact zz_J.weak (k2 c hR) rfl trivial
theorem cb_232_68 {X : Nat → Option zz_C} {h : zz_H} {t : cS} {s : mS} {d : Nat} {Q : zz_O → zz_H → Prop}  (hR : kR h t s) (k : ∀ {h : zz_H}, kR h t s → zz_J zp_P zt_tf zt_fd X d zm_232 73 [] [.int 1] h Q) : zz_J zp_P zt_tf zt_fd X d zm_232 68 [] [] h Q := by
  refine zz_J.c 69 (.int 1) rfl rfl rfl rfl ?_
  refine zz_J.n 73 rfl rfl rfl ?_
  exact zz_J.weak (k hR) rfl trivial
theorem cb_232_72 {X : Nat → Option zz_C} {h : zz_H} {t : cS} {s : mS} {d : Nat} {Q : zz_O → zz_H → Prop}  (hR : kR h t s) (k : ∀ {h : zz_H}, kR h t s → zz_J zp_P zt_tf zt_fd X d zm_232 73 [] [.int 0] h Q) : zz_J zp_P zt_tf zt_fd X d zm_232 72 [] [] h Q := by
  refine zz_J.c 73 (.int 0) rfl rfl rfl rfl ?_
  exact zz_J.weak (k hR) rfl trivial
theorem cb_232_73 {X : Nat → Option zz_C} {h : zz_H} {t : cS} {s : mS} {d : Nat} {Q : zz_O → zz_H → Prop} {y0 : Int32} (hR : kR h t s) (k : ∀ {h : zz_H}, kR h t s → Q (.inl (some (.int y0))) h) (rb : zz_reti (some .boolean) y0 = true) : zz_J zp_P zt_tf zt_fd X d zm_232 73 [] [.int y0] h Q := by
  refine zz_J.ret rfl rfl (if_pos ⟨rfl, rb⟩) ?_
  exact k hR
theorem cb_232_74 {X : Nat → Option zz_C} {h : zz_H} {t : cS} {s : mS} {d : Nat} {Q : zz_O → zz_H → Prop} {x1 : Int32} {x2 : Int32} (hR : kR h t s) (k1 : x1 ≤ x2 → (∀ {h : zz_H}, kR h t s → zz_J zp_P zt_tf zt_fd X d zm_232 83 [] [] h Q)) (k2 : ¬ x1 ≤ x2 → (∀ {h : zz_H}, kR h t s → zz_J zp_P zt_tf zt_fd X d zm_232 79 [] [] h Q)) : zz_J zp_P zt_tf zt_fd X d zm_232 74 [(1, .int x1), (2, .int x2)] [] h Q := by
  refine zz_J.n 75 rfl rfl rfl ?_
  refine zz_J.n 76 rfl rfl rfl ?_
  refine zz_J.b2 83 79 (A := x1 ≤ x2) rfl rfl (by decide) rfl rfl (fun c => ?_) (fun c => ?_)
  · exact zz_J.weak (k1 c hR) rfl trivial
  · exact zz_J.weak (k2 c hR) rfl trivial
theorem cb_232_79 {X : Nat → Option zz_C} {h : zz_H} {t : cS} {s : mS} {d : Nat} {Q : zz_O → zz_H → Prop}  (hR : kR h t s) (k : ∀ {h : zz_H}, kR h t s → zz_J zp_P zt_tf zt_fd X d zm_232 84 [] [.int 1] h Q) : zz_J zp_P zt_tf zt_fd X d zm_232 79 [] [] h Q := by
  refine zz_J.c 80 (.int 1) rfl rfl rfl rfl ?_
  refine zz_J.n 84 rfl rfl rfl ?_
  exact zz_J.weak (k hR) rfl trivial
theorem cb_232_83 {X : Nat → Option zz_C} {h : zz_H} {t : cS} {s : mS} {d : Nat} {Q : zz_O → zz_H → Prop}  (hR : kR h t s) (k : ∀ {h : zz_H}, kR h t s → zz_J zp_P zt_tf zt_fd X d zm_232 84 [] [.int 0] h Q) : zz_J zp_P zt_tf zt_fd X d zm_232 83 [] [] h Q := by
  refine zz_J.c 84 (.int 0) rfl rfl rfl rfl ?_
  exact zz_J.weak (k hR) rfl trivial
theorem cb_232_84 {X : Nat → Option zz_C} {h : zz_H} {t : cS} {s : mS} {d : Nat} {Q : zz_O → zz_H → Prop} {y0 : Int32} (hR : kR h t s) (k : ∀ {h : zz_H}, kR h t s → Q (.inl (some (.int y0))) h) (rb : zz_reti (some .boolean) y0 = true) : zz_J zp_P zt_tf zt_fd X d zm_232 84 [] [.int y0] h Q := by
  refine zz_J.ret rfl rfl (if_pos ⟨rfl, rb⟩) ?_
  exact k hR
theorem cb_232_85 {X : Nat → Option zz_C} {h : zz_H} {t : cS} {s : mS} {d : Nat} {Q : zz_O → zz_H → Prop} {x1 : Int32} {x2 : Int32} (hR : kR h t s) (k1 : x1 < x2 → (∀ {h : zz_H}, kR h t s → zz_J zp_P zt_tf zt_fd X d zm_232 94 [] [] h Q)) (k2 : ¬ x1 < x2 → (∀ {h : zz_H}, kR h t s → zz_J zp_P zt_tf zt_fd X d zm_232 90 [] [] h Q)) : zz_J zp_P zt_tf zt_fd X d zm_232 85 [(1, .int x1), (2, .int x2)] [] h Q := by
  refine zz_J.n 86 rfl rfl rfl ?_
  refine zz_J.n 87 rfl rfl rfl ?_
  refine zz_J.b2 94 90 (A := x1 < x2) rfl rfl (by decide) rfl rfl (fun c => ?_) (fun c => ?_)
  · exact zz_J.weak (k1 c hR) rfl trivial
  · exact zz_J.weak (k2 c hR) rfl trivial
theorem cb_232_90 {X : Nat → Option zz_C} {h : zz_H} {t : cS} {s : mS} {d : Nat} {Q : zz_O → zz_H → Prop}  (hR : kR h t s) (k : ∀ {h : zz_H}, kR h t s → zz_J zp_P zt_tf zt_fd X d zm_232 95 [] [.int 1] h Q) : zz_J zp_P zt_tf zt_fd X d zm_232 90 [] [] h Q := by
  refine zz_J.c 91 (.int 1) rfl rfl rfl rfl ?_
  refine zz_J.n 95 rfl rfl rfl ?_
  exact zz_J.weak (k hR) rfl trivial
theorem cb_232_94 {X : Nat → Option zz_C} {h : zz_H} {t : cS} {s : mS} {d : Nat} {Q : zz_O → zz_H → Prop}  (hR : kR h t s) (k : ∀ {h : zz_H}, kR h t s → zz_J zp_P zt_tf zt_fd X d zm_232 95 [] [.int 0] h Q) : zz_J zp_P zt_tf zt_fd X d zm_232 94 [] [] h Q := by
  refine zz_J.c 95 (.int 0) rfl rfl rfl rfl ?_
  exact zz_J.weak (k hR) rfl trivial
theorem cb_232_95 {X : Nat → Option zz_C} {h : zz_H} {t : cS} {s : mS} {d : Nat} {Q : zz_O → zz_H → Prop} {y0 : Int32} (hR : kR h t s) (k : ∀ {h : zz_H}, kR h t s → Q (.inl (some (.int y0))) h) (rb : zz_reti (some .boolean) y0 = true) : zz_J zp_P zt_tf zt_fd X d zm_232 95 [] [.int y0] h Q := by
  refine zz_J.ret rfl rfl (if_pos ⟨rfl, rb⟩) ?_
  exact k hR
theorem cb_232_96 {X : Nat → Option zz_C} {h : zz_H} {t : cS} {s : mS} {d : Nat} {Q : zz_O → zz_H → Prop} {x1 : Int32} {x2 : Int32} (hR : kR h t s) (k1 : x1 = x2 → (∀ {h : zz_H}, kR h t s → zz_J zp_P zt_tf zt_fd X d zm_232 105 [] [] h Q)) (k2 : ¬ x1 = x2 → (∀ {h : zz_H}, kR h t s → zz_J zp_P zt_tf zt_fd X d zm_232 101 [] [] h Q)) : zz_J zp_P zt_tf zt_fd X d zm_232 96 [(1, .int x1), (2, .int x2)] [] h Q := by
  refine zz_J.n 97 rfl rfl rfl ?_
  refine zz_J.n 98 rfl rfl rfl ?_
  refine zz_J.b2 105 101 (A := x1 = x2) rfl rfl (by decide) rfl rfl (fun c => ?_) (fun c => ?_)
  · exact zz_J.weak (k1 c hR) rfl trivial
  · exact zz_J.weak (k2 c hR) rfl trivial
theorem cb_232_101 {X : Nat → Option zz_C} {h : zz_H} {t : cS} {s : mS} {d : Nat} {Q : zz_O → zz_H → Prop}  (hR : kR h t s) (k : ∀ {h : zz_H}, kR h t s → zz_J zp_P zt_tf zt_fd X d zm_232 106 [] [.int 1] h Q) : zz_J zp_P zt_tf zt_fd X d zm_232 101 [] [] h Q := by
  refine zz_J.c 102 (.int 1) rfl rfl rfl rfl ?_
  refine zz_J.n 106 rfl rfl rfl ?_
  exact zz_J.weak (k hR) rfl trivial
theorem cb_232_105 {X : Nat → Option zz_C} {h : zz_H} {t : cS} {s : mS} {d : Nat} {Q : zz_O → zz_H → Prop}  (hR : kR h t s) (k : ∀ {h : zz_H}, kR h t s → zz_J zp_P zt_tf zt_fd X d zm_232 106 [] [.int 0] h Q) : zz_J zp_P zt_tf zt_fd X d zm_232 105 [] [] h Q := by
  refine zz_J.c 106 (.int 0) rfl rfl rfl rfl ?_
  exact zz_J.weak (k hR) rfl trivial
theorem cb_232_106 {X : Nat → Option zz_C} {h : zz_H} {t : cS} {s : mS} {d : Nat} {Q : zz_O → zz_H → Prop} {y0 : Int32} (hR : kR h t s) (k : ∀ {h : zz_H}, kR h t s → Q (.inl (some (.int y0))) h) (rb : zz_reti (some .boolean) y0 = true) : zz_J zp_P zt_tf zt_fd X d zm_232 106 [] [.int y0] h Q := by
  refine zz_J.ret rfl rfl (if_pos ⟨rfl, rb⟩) ?_
  exact k hR
theorem cb_232_107 {X : Nat → Option zz_C} {h : zz_H} {t : cS} {s : mS} {d : Nat} {Q : zz_O → zz_H → Prop} {x1 : Int32} {x2 : Int32} (hR : kR h t s) (k1 : ¬ x1 = x2 → (∀ {h : zz_H}, kR h t s → zz_J zp_P zt_tf zt_fd X d zm_232 116 [] [] h Q)) (k2 : ¬ ¬ x1 = x2 → (∀ {h : zz_H}, kR h t s → zz_J zp_P zt_tf zt_fd X d zm_232 112 [] [] h Q)) : zz_J zp_P zt_tf zt_fd X d zm_232 107 [(1, .int x1), (2, .int x2)] [] h Q := by
  refine zz_J.n 108 rfl rfl rfl ?_
  refine zz_J.n 109 rfl rfl rfl ?_
  refine zz_J.b2 116 112 (A := ¬ x1 = x2) rfl (zz_cond_ne _ _) (by decide) rfl rfl (fun c => ?_) (fun c => ?_)
  · exact zz_J.weak (k1 c hR) rfl trivial
  · exact zz_J.weak (k2 c hR) rfl trivial
theorem cb_232_112 {X : Nat → Option zz_C} {h : zz_H} {t : cS} {s : mS} {d : Nat} {Q : zz_O → zz_H → Prop}  (hR : kR h t s) (k : ∀ {h : zz_H}, kR h t s → zz_J zp_P zt_tf zt_fd X d zm_232 117 [] [.int 1] h Q) : zz_J zp_P zt_tf zt_fd X d zm_232 112 [] [] h Q := by
  refine zz_J.c 113 (.int 1) rfl rfl rfl rfl ?_
  refine zz_J.n 117 rfl rfl rfl ?_
  exact zz_J.weak (k hR) rfl trivial
theorem cb_232_116 {X : Nat → Option zz_C} {h : zz_H} {t : cS} {s : mS} {d : Nat} {Q : zz_O → zz_H → Prop}  (hR : kR h t s) (k : ∀ {h : zz_H}, kR h t s → zz_J zp_P zt_tf zt_fd X d zm_232 117 [] [.int 0] h Q) : zz_J zp_P zt_tf zt_fd X d zm_232 116 [] [] h Q := by
  refine zz_J.c 117 (.int 0) rfl rfl rfl rfl ?_
  exact zz_J.weak (k hR) rfl trivial
theorem cb_232_117 {X : Nat → Option zz_C} {h : zz_H} {t : cS} {s : mS} {d : Nat} {Q : zz_O → zz_H → Prop} {y0 : Int32} (hR : kR h t s) (k : ∀ {h : zz_H}, kR h t s → Q (.inl (some (.int y0))) h) (rb : zz_reti (some .boolean) y0 = true) : zz_J zp_P zt_tf zt_fd X d zm_232 117 [] [.int y0] h Q := by
  refine zz_J.ret rfl rfl (if_pos ⟨rfl, rb⟩) ?_
  exact k hR
def cf_232_62 (N : Nat) (X : Nat → Option zz_C) (y0 : Int32) (t : cS) : kO := if zz_reti (some .boolean) y0 = true then some (t, .inl (some (.int y0))) else none
theorem cr_232_62 {X : Nat → Option zz_C} {s : mS} {N : Nat} {d : Nat} (hd : 0 ≤ d) {Q : zz_O → zz_H → Prop} {y0 : Int32} {h : zz_H} {t t' : cS} {o : kY} (hR : kR h t s) (hf : cf_232_62 N X y0 t = some (t', o)) (k : (∀ h', kR h' t' s → kE o Q h')) : zz_J zp_P zt_tf zt_fd X d zm_232 62 [] [.int y0] h Q := by
  unfold cf_232_62 at hf
  obtain ⟨rb, hf⟩ := ko_if hf
  cases hf
  exact cb_232_62 hR  (fun {h} hR => k h hR) rb
def cf_232_61 (N : Nat) (X : Nat → Option zz_C)  (t : cS) : kO := cf_232_62 N X 0 t
theorem cr_232_61 {X : Nat → Option zz_C} {s : mS} {N : Nat} {d : Nat} (hd : 0 ≤ d) {Q : zz_O → zz_H → Prop}  {h : zz_H} {t t' : cS} {o : kY} (hR : kR h t s) (hf : cf_232_61 N X  t = some (t', o)) (k : (∀ h', kR h' t' s → kE o Q h')) : zz_J zp_P zt_tf zt_fd X d zm_232 61 [] [] h Q := by
  unfold cf_232_61 at hf
  exact cb_232_61 hR  (fun hR => cr_232_62 hd hR hf k)
def cf_232_57 (N : Nat) (X : Nat → Option zz_C)  (t : cS) : kO := cf_232_62 N X 1 t
theorem cr_232_57 {X : Nat → Option zz_C} {s : mS} {N : Nat} {d : Nat} (hd : 0 ≤ d) {Q : zz_O → zz_H → Prop}  {h : zz_H} {t t' : cS} {o : kY} (hR : kR h t s) (hf : cf_232_57 N X  t = some (t', o)) (k : (∀ h', kR h' t' s → kE o Q h')) : zz_J zp_P zt_tf zt_fd X d zm_232 57 [] [] h Q := by
  unfold cf_232_57 at hf
  exact cb_232_57 hR  (fun hR => cr_232_62 hd hR hf k)
def cf_232_52 (N : Nat) (X : Nat → Option zz_C) (x1 : Int32) (x2 : Int32) (t : cS) : kO := if x2 ≤ x1 then cf_232_61 N X  t else cf_232_57 N X  t
theorem cr_232_52 {X : Nat → Option zz_C} {s : mS} {N : Nat} {d : Nat} (hd : 0 ≤ d) {Q : zz_O → zz_H → Prop} {x1 : Int32} {x2 : Int32} {h : zz_H} {t t' : cS} {o : kY} (hR : kR h t s) (hf : cf_232_52 N X x1 x2 t = some (t', o)) (k : (∀ h', kR h' t' s → kE o Q h')) : zz_J zp_P zt_tf zt_fd X d zm_232 52 [(1, .int x1), (2, .int x2)] [] h Q := by
  unfold cf_232_52 at hf
  refine cb_232_52 hR  (fun c {h} hR => ?_) (fun c {h} hR => ?_)
  · rw [if_pos c] at hf
    exact cr_232_61 hd hR hf k
  · rw [if_neg c] at hf
    exact cr_232_57 hd hR hf k
def cf_232_84 (N : Nat) (X : Nat → Option zz_C) (y0 : Int32) (t : cS) : kO := if zz_reti (some .boolean) y0 = true then some (t, .inl (some (.int y0))) else none
theorem cr_232_84 {X : Nat → Option zz_C} {s : mS} {N : Nat} {d : Nat} (hd : 0 ≤ d) {Q : zz_O → zz_H → Prop} {y0 : Int32} {h : zz_H} {t t' : cS} {o : kY} (hR : kR h t s) (hf : cf_232_84 N X y0 t = some (t', o)) (k : (∀ h', kR h' t' s → kE o Q h')) : zz_J zp_P zt_tf zt_fd X d zm_232 84 [] [.int y0] h Q := by
  unfold cf_232_84 at hf
  obtain ⟨rb, hf⟩ := ko_if hf
  cases hf
  exact cb_232_84 hR  (fun {h} hR => k h hR) rb
def cf_232_83 (N : Nat) (X : Nat → Option zz_C)  (t : cS) : kO := cf_232_84 N X 0 t
theorem cr_232_83 {X : Nat → Option zz_C} {s : mS} {N : Nat} {d : Nat} (hd : 0 ≤ d) {Q : zz_O → zz_H → Prop}  {h : zz_H} {t t' : cS} {o : kY} (hR : kR h t s) (hf : cf_232_83 N X  t = some (t', o)) (k : (∀ h', kR h' t' s → kE o Q h')) : zz_J zp_P zt_tf zt_fd X d zm_232 83 [] [] h Q := by
  unfold cf_232_83 at hf
  exact cb_232_83 hR  (fun hR => cr_232_84 hd hR hf k)
def cf_232_79 (N : Nat) (X : Nat → Option zz_C)  (t : cS) : kO := cf_232_84 N X 1 t
theorem cr_232_79 {X : Nat → Option zz_C} {s : mS} {N : Nat} {d : Nat} (hd : 0 ≤ d) {Q : zz_O → zz_H → Prop}  {h : zz_H} {t t' : cS} {o : kY} (hR : kR h t s) (hf : cf_232_79 N X  t = some (t', o)) (k : (∀ h', kR h' t' s → kE o Q h')) : zz_J zp_P zt_tf zt_fd X d zm_232 79 [] [] h Q := by
  unfold cf_232_79 at hf
  exact cb_232_79 hR  (fun hR => cr_232_84 hd hR hf k)
def cf_232_74 (N : Nat) (X : Nat → Option zz_C) (x1 : Int32) (x2 : Int32) (t : cS) : kO := if x1 ≤ x2 then cf_232_83 N X  t else cf_232_79 N X  t
theorem cr_232_74 {X : Nat → Option zz_C} {s : mS} {N : Nat} {d : Nat} (hd : 0 ≤ d) {Q : zz_O → zz_H → Prop} {x1 : Int32} {x2 : Int32} {h : zz_H} {t t' : cS} {o : kY} (hR : kR h t s) (hf : cf_232_74 N X x1 x2 t = some (t', o)) (k : (∀ h', kR h' t' s → kE o Q h')) : zz_J zp_P zt_tf zt_fd X d zm_232 74 [(1, .int x1), (2, .int x2)] [] h Q := by
  unfold cf_232_74 at hf
  refine cb_232_74 hR  (fun c {h} hR => ?_) (fun c {h} hR => ?_)
  · rw [if_pos c] at hf
    exact cr_232_83 hd hR hf k
  · rw [if_neg c] at hf
    exact cr_232_79 hd hR hf k
def cf_232_106 (N : Nat) (X : Nat → Option zz_C) (y0 : Int32) (t : cS) : kO := if zz_reti (some .boolean) y0 = true then some (t, .inl (some (.int y0))) else none
theorem cr_232_106 {X : Nat → Option zz_C} {s : mS} {N : Nat} {d : Nat} (hd : 0 ≤ d) {Q : zz_O → zz_H → Prop} {y0 : Int32} {h : zz_H} {t t' : cS} {o : kY} (hR : kR h t s) (hf : cf_232_106 N X y0 t = some (t', o)) (k : (∀ h', kR h' t' s → kE o Q h')) : zz_J zp_P zt_tf zt_fd X d zm_232 106 [] [.int y0] h Q := by
  unfold cf_232_106 at hf
  obtain ⟨rb, hf⟩ := ko_if hf
  cases hf
  exact cb_232_106 hR  (fun {h} hR => k h hR) rb
def cf_232_105 (N : Nat) (X : Nat → Option zz_C)  (t : cS) : kO := cf_232_106 N X 0 t
theorem cr_232_105 {X : Nat → Option zz_C} {s : mS} {N : Nat} {d : Nat} (hd : 0 ≤ d) {Q : zz_O → zz_H → Prop}  {h : zz_H} {t t' : cS} {o : kY} (hR : kR h t s) (hf : cf_232_105 N X  t = some (t', o)) (k : (∀ h', kR h' t' s → kE o Q h')) : zz_J zp_P zt_tf zt_fd X d zm_232 105 [] [] h Q := by
  unfold cf_232_105 at hf
  exact cb_232_105 hR  (fun hR => cr_232_106 hd hR hf k)
def cf_232_101 (N : Nat) (X : Nat → Option zz_C)  (t : cS) : kO := cf_232_106 N X 1 t
theorem cr_232_101 {X : Nat → Option zz_C} {s : mS} {N : Nat} {d : Nat} (hd : 0 ≤ d) {Q : zz_O → zz_H → Prop}  {h : zz_H} {t t' : cS} {o : kY} (hR : kR h t s) (hf : cf_232_101 N X  t = some (t', o)) (k : (∀ h', kR h' t' s → kE o Q h')) : zz_J zp_P zt_tf zt_fd X d zm_232 101 [] [] h Q := by
  unfold cf_232_101 at hf
  exact cb_232_101 hR  (fun hR => cr_232_106 hd hR hf k)
def cf_232_96 (N : Nat) (X : Nat → Option zz_C) (x1 : Int32) (x2 : Int32) (t : cS) : kO := if x1 = x2 then cf_232_105 N X  t else cf_232_101 N X  t
theorem cr_232_96 {X : Nat → Option zz_C} {s : mS} {N : Nat} {d : Nat} (hd : 0 ≤ d) {Q : zz_O → zz_H → Prop} {x1 : Int32} {x2 : Int32} {h : zz_H} {t t' : cS} {o : kY} (hR : kR h t s) (hf : cf_232_96 N X x1 x2 t = some (t', o)) (k : (∀ h', kR h' t' s → kE o Q h')) : zz_J zp_P zt_tf zt_fd X d zm_232 96 [(1, .int x1), (2, .int x2)] [] h Q := by
  unfold cf_232_96 at hf
  refine cb_232_96 hR  (fun c {h} hR => ?_) (fun c {h} hR => ?_)
  · rw [if_pos c] at hf
    exact cr_232_105 hd hR hf k
  · rw [if_neg c] at hf
    exact cr_232_101 hd hR hf k
def cf_232_73 (N : Nat) (X : Nat → Option zz_C) (y0 : Int32) (t : cS) : kO := if zz_reti (some .boolean) y0 = true then some (t, .inl (some (.int y0))) else none
theorem cr_232_73 {X : Nat → Option zz_C} {s : mS} {N : Nat} {d : Nat} (hd : 0 ≤ d) {Q : zz_O → zz_H → Prop} {y0 : Int32} {h : zz_H} {t t' : cS} {o : kY} (hR : kR h t s) (hf : cf_232_73 N X y0 t = some (t', o)) (k : (∀ h', kR h' t' s → kE o Q h')) : zz_J zp_P zt_tf zt_fd X d zm_232 73 [] [.int y0] h Q := by
  unfold cf_232_73 at hf
  obtain ⟨rb, hf⟩ := ko_if hf
  cases hf
  exact cb_232_73 hR  (fun {h} hR => k h hR) rb
def cf_232_72 (N : Nat) (X : Nat → Option zz_C)  (t : cS) : kO := cf_232_73 N X 0 t
theorem cr_232_72 {X : Nat → Option zz_C} {s : mS} {N : Nat} {d : Nat} (hd : 0 ≤ d) {Q : zz_O → zz_H → Prop}  {h : zz_H} {t t' : cS} {o : kY} (hR : kR h t s) (hf : cf_232_72 N X  t = some (t', o)) (k : (∀ h', kR h' t' s → kE o Q h')) : zz_J zp_P zt_tf zt_fd X d zm_232 72 [] [] h Q := by
  unfold cf_232_72 at hf
  exact cb_232_72 hR  (fun hR => cr_232_73 hd hR hf k)
def cf_232_68 (N : Nat) (X : Nat → Option zz_C)  (t : cS) : kO := cf_232_73 N X 1 t
theorem cr_232_68 {X : Nat → Option zz_C} {s : mS} {N : Nat} {d : Nat} (hd : 0 ≤ d) {Q : zz_O → zz_H → Prop}  {h : zz_H} {t t' : cS} {o : kY} (hR : kR h t s) (hf : cf_232_68 N X  t = some (t', o)) (k : (∀ h', kR h' t' s → kE o Q h')) : zz_J zp_P zt_tf zt_fd X d zm_232 68 [] [] h Q := by
  unfold cf_232_68 at hf
  exact cb_232_68 hR  (fun hR => cr_232_73 hd hR hf k)
def cf_232_63 (N : Nat) (X : Nat → Option zz_C) (x1 : Int32) (x2 : Int32) (t : cS) : kO := if x2 < x1 then cf_232_72 N X  t else cf_232_68 N X  t
theorem cr_232_63 {X : Nat → Option zz_C} {s : mS} {N : Nat} {d : Nat} (hd : 0 ≤ d) {Q : zz_O → zz_H → Prop} {x1 : Int32} {x2 : Int32} {h : zz_H} {t t' : cS} {o : kY} (hR : kR h t s) (hf : cf_232_63 N X x1 x2 t = some (t', o)) (k : (∀ h', kR h' t' s → kE o Q h')) : zz_J zp_P zt_tf zt_fd X d zm_232 63 [(1, .int x1), (2, .int x2)] [] h Q := by
  unfold cf_232_63 at hf
  refine cb_232_63 hR  (fun c {h} hR => ?_) (fun c {h} hR => ?_)
  · rw [if_pos c] at hf
    exact cr_232_72 hd hR hf k
  · rw [if_neg c] at hf
    exact cr_232_68 hd hR hf k
def cf_232_95 (N : Nat) (X : Nat → Option zz_C) (y0 : Int32) (t : cS) : kO := if zz_reti (some .boolean) y0 = true then some (t, .inl (some (.int y0))) else none
theorem cr_232_95 {X : Nat → Option zz_C} {s : mS} {N : Nat} {d : Nat} (hd : 0 ≤ d) {Q : zz_O → zz_H → Prop} {y0 : Int32} {h : zz_H} {t t' : cS} {o : kY} (hR : kR h t s) (hf : cf_232_95 N X y0 t = some (t', o)) (k : (∀ h', kR h' t' s → kE o Q h')) : zz_J zp_P zt_tf zt_fd X d zm_232 95 [] [.int y0] h Q := by
  unfold cf_232_95 at hf
  obtain ⟨rb, hf⟩ := ko_if hf
  cases hf
  exact cb_232_95 hR  (fun {h} hR => k h hR) rb
def cf_232_94 (N : Nat) (X : Nat → Option zz_C)  (t : cS) : kO := cf_232_95 N X 0 t
theorem cr_232_94 {X : Nat → Option zz_C} {s : mS} {N : Nat} {d : Nat} (hd : 0 ≤ d) {Q : zz_O → zz_H → Prop}  {h : zz_H} {t t' : cS} {o : kY} (hR : kR h t s) (hf : cf_232_94 N X  t = some (t', o)) (k : (∀ h', kR h' t' s → kE o Q h')) : zz_J zp_P zt_tf zt_fd X d zm_232 94 [] [] h Q := by
  unfold cf_232_94 at hf
  exact cb_232_94 hR  (fun hR => cr_232_95 hd hR hf k)
def cf_232_90 (N : Nat) (X : Nat → Option zz_C)  (t : cS) : kO := cf_232_95 N X 1 t
theorem cr_232_90 {X : Nat → Option zz_C} {s : mS} {N : Nat} {d : Nat} (hd : 0 ≤ d) {Q : zz_O → zz_H → Prop}  {h : zz_H} {t t' : cS} {o : kY} (hR : kR h t s) (hf : cf_232_90 N X  t = some (t', o)) (k : (∀ h', kR h' t' s → kE o Q h')) : zz_J zp_P zt_tf zt_fd X d zm_232 90 [] [] h Q := by
  unfold cf_232_90 at hf
  exact cb_232_90 hR  (fun hR => cr_232_95 hd hR hf k)
def cf_232_85 (N : Nat) (X : Nat → Option zz_C) (x1 : Int32) (x2 : Int32) (t : cS) : kO := if x1 < x2 then cf_232_94 N X  t else cf_232_90 N X  t
theorem cr_232_85 {X : Nat → Option zz_C} {s : mS} {N : Nat} {d : Nat} (hd : 0 ≤ d) {Q : zz_O → zz_H → Prop} {x1 : Int32} {x2 : Int32} {h : zz_H} {t t' : cS} {o : kY} (hR : kR h t s) (hf : cf_232_85 N X x1 x2 t = some (t', o)) (k : (∀ h', kR h' t' s → kE o Q h')) : zz_J zp_P zt_tf zt_fd X d zm_232 85 [(1, .int x1), (2, .int x2)] [] h Q := by
  unfold cf_232_85 at hf
  refine cb_232_85 hR  (fun c {h} hR => ?_) (fun c {h} hR => ?_)
  · rw [if_pos c] at hf
    exact cr_232_94 hd hR hf k
  · rw [if_neg c] at hf
    exact cr_232_90 hd hR hf k
def cf_232_117 (N : Nat) (X : Nat → Option zz_C) (y0 : Int32) (t : cS) : kO := if zz_reti (some .boolean) y0 = true then some (t, .inl (some (.int y0))) else none
theorem cr_232_117 {X : Nat → Option zz_C} {s : mS} {N : Nat} {d : Nat} (hd : 0 ≤ d) {Q : zz_O → zz_H → Prop} {y0 : Int32} {h : zz_H} {t t' : cS} {o : kY} (hR : kR h t s) (hf : cf_232_117 N X y0 t = some (t', o)) (k : (∀ h', kR h' t' s → kE o Q h')) : zz_J zp_P zt_tf zt_fd X d zm_232 117 [] [.int y0] h Q := by
  unfold cf_232_117 at hf
  obtain ⟨rb, hf⟩ := ko_if hf
  cases hf
  exact cb_232_117 hR  (fun {h} hR => k h hR) rb
def cf_232_116 (N : Nat) (X : Nat → Option zz_C)  (t : cS) : kO := cf_232_117 N X 0 t
theorem cr_232_116 {X : Nat → Option zz_C} {s : mS} {N : Nat} {d : Nat} (hd : 0 ≤ d) {Q : zz_O → zz_H → Prop}  {h : zz_H} {t t' : cS} {o : kY} (hR : kR h t s) (hf : cf_232_116 N X  t = some (t', o)) (k : (∀ h', kR h' t' s → kE o Q h')) : zz_J zp_P zt_tf zt_fd X d zm_232 116 [] [] h Q := by
  unfold cf_232_116 at hf
  exact cb_232_116 hR  (fun hR => cr_232_117 hd hR hf k)
def cf_232_112 (N : Nat) (X : Nat → Option zz_C)  (t : cS) : kO := cf_232_117 N X 1 t
theorem cr_232_112 {X : Nat → Option zz_C} {s : mS} {N : Nat} {d : Nat} (hd : 0 ≤ d) {Q : zz_O → zz_H → Prop}  {h : zz_H} {t t' : cS} {o : kY} (hR : kR h t s) (hf : cf_232_112 N X  t = some (t', o)) (k : (∀ h', kR h' t' s → kE o Q h')) : zz_J zp_P zt_tf zt_fd X d zm_232 112 [] [] h Q := by
  unfold cf_232_112 at hf
  exact cb_232_112 hR  (fun hR => cr_232_117 hd hR hf k)
def cf_232_107 (N : Nat) (X : Nat → Option zz_C) (x1 : Int32) (x2 : Int32) (t : cS) : kO := if ¬ x1 = x2 then cf_232_116 N X  t else cf_232_112 N X  t
theorem cr_232_107 {X : Nat → Option zz_C} {s : mS} {N : Nat} {d : Nat} (hd : 0 ≤ d) {Q : zz_O → zz_H → Prop} {x1 : Int32} {x2 : Int32} {h : zz_H} {t t' : cS} {o : kY} (hR : kR h t s) (hf : cf_232_107 N X x1 x2 t = some (t', o)) (k : (∀ h', kR h' t' s → kE o Q h')) : zz_J zp_P zt_tf zt_fd X d zm_232 107 [(1, .int x1), (2, .int x2)] [] h Q := by
  unfold cf_232_107 at hf
  refine cb_232_107 hR  (fun c {h} hR => ?_) (fun c {h} hR => ?_)
  · rw [if_pos c] at hf
    exact cr_232_116 hd hR hf k
  · rw [if_neg c] at hf
    exact cr_232_112 hd hR hf k
def cf_232_0 (N : Nat) (X : Nat → Option zz_C) (x0 : Int32) (x1 : Int32) (x2 : Int32) (t : cS) : kO := if x0 = 60 then cf_232_52 N X x1 x2 t else if x0 = 62 then cf_232_74 N X x1 x2 t else if x0 = 289 then cf_232_96 N X x1 x2 t else if x0 = 316 then cf_232_63 N X x1 x2 t else if x0 = 318 then cf_232_85 N X x1 x2 t else cf_232_107 N X x1 x2 t
theorem cr_232_0 {X : Nat → Option zz_C} {s : mS} {N : Nat} {d : Nat} (hd : 0 ≤ d) {Q : zz_O → zz_H → Prop} {x0 : Int32} {x1 : Int32} {x2 : Int32} {h : zz_H} {t t' : cS} {o : kY} (hR : kR h t s) (hf : cf_232_0 N X x0 x1 x2 t = some (t', o)) (k : (∀ h', kR h' t' s → kE o Q h')) : zz_J zp_P zt_tf zt_fd X d zm_232 0 [(0, .int x0), (1, .int x1), (2, .int x2)] [] h Q := by
  unfold cf_232_0 at hf
  refine cb_232_0 hR  (fun c {h} hR => ?_) (fun c {h} hR => ?_) (fun c {h} hR => ?_) (fun c {h} hR => ?_) (fun c {h} hR => ?_) (fun c {h} hR => ?_)
  · skip
    rw [if_pos c] at hf
    exact cr_232_52 hd hR hf k
  · rw [if_neg (by rw [c]; decide)] at hf
    rw [if_pos c] at hf
    exact cr_232_74 hd hR hf k
  · rw [if_neg (by rw [c]; decide)] at hf
    rw [if_neg (by rw [c]; decide)] at hf
    rw [if_pos c] at hf
    exact cr_232_96 hd hR hf k
  · rw [if_neg (by rw [c]; decide)] at hf
    rw [if_neg (by rw [c]; decide)] at hf
    rw [if_neg (by rw [c]; decide)] at hf
    rw [if_pos c] at hf
    exact cr_232_63 hd hR hf k
  · rw [if_neg (by rw [c]; decide)] at hf
    rw [if_neg (by rw [c]; decide)] at hf
    rw [if_neg (by rw [c]; decide)] at hf
    rw [if_neg (by rw [c]; decide)] at hf
    rw [if_pos c] at hf
    exact cr_232_85 hd hR hf k
  · skip
    rw [if_neg c.1] at hf
    rw [if_neg c.2.1] at hf
    rw [if_neg c.2.2.1] at hf
    rw [if_neg c.2.2.2.1] at hf
    rw [if_neg c.2.2.2.2] at hf
    exact cr_232_107 hd hR hf k
/-- compares -/
def cf_232 (N : Nat) (X : Nat → Option zz_C) (x0 : Int32) (x1 : Int32) (x2 : Int32) (t : cS) : kO := cf_232_0 N X x0 x1 x2 t
theorem cr_232 {X : Nat → Option zz_C} {s : mS} {N : Nat} {d : Nat} (hd : 0 ≤ d) {Q : zz_O → zz_H → Prop} {x0 : Int32} {x1 : Int32} {x2 : Int32} {h : zz_H} {t t' : cS} {o : kY} (hR : kR h t s) (hf : cf_232 N X x0 x1 x2 t = some (t', o)) (k : ∀ h', kR h' t' s → kE o Q h') : zz_J zp_P zt_tf zt_fd X d zm_232 0 [(0, .int x0), (1, .int x1), (2, .int x2)] [] h Q := by
  unfold cf_232 at hf
  exact zz_J.weak (cr_232_0 hd hR hf k) rfl ⟨rfl, rfl, rfl, trivial⟩
