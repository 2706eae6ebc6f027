/-! yX3_give (JII)V -/
theorem cb_144_0 {X : Nat → Option zz_C} {h : zz_H} {t : cS} {s : mS} {d : Nat} {Q : zz_O → zz_H → Prop} {x1 : Int64} {x3 : Int32} {x4 : Int32} (hR : kR h t s) (k : ∀ {h : zz_H}, kR h t s → zz_J zp_P zt_tf zt_fd X d zm_255 0 [(0, .long x1)] [] h (zz_after 1000 Q (fun v h' => zz_J zp_P zt_tf zt_fd X (d + 1) zm_144 4 [(0, .ref 49), (1, .long x1), (3, .int x3), (4, .int x4)] (v.toList ++ []) h' Q))) : zz_J zp_P zt_tf zt_fd X (d + 1) zm_144 0 [(0, .ref 49), (1, .long x1), (3, .int x3), (4, .int x4)] [] h Q := by
  refine zz_J.n 1 rfl rfl rfl ?_
  refine zz_J.cl (M' := zm_255) 4 rfl rfl (by decide) rfl rfl ⟨rfl, Nat.le_of_ble_eq_true rfl⟩ rfl ?_
  refine zz_J.mono (k hR) ?_
  intro o h' hE
  cases o with
  | inl v => exact zz_J.weak hE rfl ⟨rfl, rfl, rfl, rfl, trivial⟩
  | inr q => exact hE
theorem cb_144_4 {X : Nat → Option zz_C} {h : zz_H} {t : cS} {s : mS} {d : Nat} {Q : zz_O → zz_H → Prop} {x1 : Int64} {x3 : Int32} {x4 : Int32} {y0 : Int32} (hR : kR h t s) (k1 : ¬ y0 = 4 → (∀ {h : zz_H}, kR h t s → zz_J zp_P zt_tf zt_fd X d zm_144 22 [(0, .ref 49), (1, .long x1), (3, .int x3), (4, .int x4)] [] h Q)) (k2 : ¬ ¬ y0 = 4 → (∀ {h : zz_H}, kR h t s → zz_J zp_P zt_tf zt_fd X d zm_144 8 [(0, .ref 49), (1, .long x1), (4, .int x4)] [] h Q)) : zz_J zp_P zt_tf zt_fd X d zm_144 4 [(0, .ref 49), (1, .long x1), (3, .int x3), (4, .int x4)] [.int y0] h Q := by
  refine zz_J.c 5 (.int 4) rfl rfl rfl rfl ?_
  refine zz_J.b2 22 8 (A := ¬ y0 = 4) rfl (zz_cond_ne _ _) (by decide) rfl rfl (fun c => ?_) (fun c => ?_)
  · exact zz_J.weak (k1 c hR) rfl ⟨rfl, rfl, rfl, rfl, trivial⟩
  · exact zz_J.weak (k2 c hR) rfl ⟨rfl, rfl, rfl, trivial⟩
theorem cb_144_8 {X : Nat → Option zz_C} {h : zz_H} {t : cS} {s : mS} {d : Nat} {Q : zz_O → zz_H → Prop} {x1 : Int64} {x4 : Int32} (hR : kR h t s) (k : ∀ {h : zz_H}, kR h t s → zz_J zp_P zt_tf zt_fd X d zm_256 0 [(0, .long x1)] [] h (zz_after 1000 Q (fun v h' => zz_J zp_P zt_tf zt_fd X (d + 1) zm_144 13 [(4, .int x4)] (v.toList ++ [.ref 49]) h' Q))) : zz_J zp_P zt_tf zt_fd X (d + 1) zm_144 8 [(0, .ref 49), (1, .long x1), (4, .int x4)] [] h Q := by
  refine zz_J.n 9 rfl rfl rfl ?_
  refine zz_J.n 10 rfl rfl rfl ?_
  refine zz_J.cl (M' := zm_256) 13 rfl rfl (by decide) rfl rfl ⟨rfl, Nat.le_of_ble_eq_true rfl⟩ rfl ?_
  refine zz_J.mono (k hR) ?_
  intro o h' hE
  cases o with
  | inl v => exact zz_J.weak hE rfl ⟨rfl, trivial⟩
  | inr q => exact hE
theorem cb_144_13 {X : Nat → Option zz_C} {h : zz_H} {t : cS} {s : mS} {d : Nat} {Q : zz_O → zz_H → Prop} {x4 : Int32} {y1 : Int32} (hR : kR h t s) (k : ∀ {h : zz_H}, kR h t s → zz_J zp_P zt_tf zt_fd X d zm_156 0 [(0, .ref 49), (1, .int y1), (2, .int x4), (3, .int 0)] [] h (zz_after 3 Q (fun v h' => zz_J zp_P zt_tf zt_fd X (d + 1) zm_144 19 [] (v.toList ++ []) h' Q))) : zz_J zp_P zt_tf zt_fd X (d + 1) zm_144 13 [(4, .int x4)] [.int y1, .ref 49] h Q := by
  refine zz_J.n 15 rfl rfl rfl ?_
  refine zz_J.c 16 (.int 0) rfl rfl rfl rfl ?_
  refine zz_J.cv 19 (as := []) rfl rfl (hR.clO ko_49 (by decide) (by decide)) (by decide) (Nat.le_of_ble_eq_true rfl) (Nat.le_of_ble_eq_true rfl) rfl (Nat.le_of_ble_eq_true rfl) rfl ?_
  refine zz_J.mono (k hR) ?_
  intro o h' hE
  cases o with
  | inl v => exact zz_J.weak hE rfl trivial
  | inr q => exact hE
theorem cb_144_19 {X : Nat → Option zz_C} {h : zz_H} {t : cS} {s : mS} {d : Nat} {Q : zz_O → zz_H → Prop}  (hR : kR h t s) (k : ∀ {h : zz_H}, kR h t s → zz_J zp_P zt_tf zt_fd X d zm_144 71 [] [] h Q) : zz_J zp_P zt_tf zt_fd X d zm_144 19 [] [] h Q := by
  refine zz_J.n 71 rfl rfl rfl ?_
  exact zz_J.weak (k hR) rfl trivial
theorem cb_144_22 {X : Nat → Option zz_C} {h : zz_H} {t : cS} {s : mS} {d : Nat} {Q : zz_O → zz_H → Prop} {x1 : Int64} {x3 : Int32} {x4 : Int32} (hR : kR h t s) (k : ∀ {h : zz_H}, kR h t s → zz_J zp_P zt_tf zt_fd X d zm_131 0 [(0, .ref 42), (1, .long x1)] [] h (zz_after 2 Q (fun v h' => zz_J zp_P zt_tf zt_fd X (d + 1) zm_144 34 [(0, .ref 49), (1, .long x1), (3, .int x3), (4, .int x4)] (v.toList ++ [.ref 48]) h' Q))) : zz_J zp_P zt_tf zt_fd X (d + 1) zm_144 22 [(0, .ref 49), (1, .long x1), (3, .int x3), (4, .int x4)] [] h Q := by
  refine zz_J.n 23 rfl rfl rfl ?_
  refine zz_J.g 26 rfl (hR.gv (v := .ref 48) ko_49 (by decide) rfl) rfl ?_
  refine zz_J.n 27 rfl rfl rfl ?_
  refine zz_J.g 30 rfl (hR.gv (v := .ref 42) ko_49 (by decide) rfl) rfl ?_
  refine zz_J.n 31 rfl rfl rfl ?_
  refine zz_J.cv 34 (as := [.ref 48]) rfl rfl (hR.clO ko_42 (by decide) (by decide)) (by decide) (Nat.le_of_ble_eq_true rfl) (Nat.le_of_ble_eq_true rfl) rfl (Nat.le_of_ble_eq_true rfl) rfl ?_
  refine zz_J.mono (k hR) ?_
  intro o h' hE
  cases o with
  | inl v => exact zz_J.weak hE rfl ⟨rfl, rfl, rfl, rfl, trivial⟩
  | inr q => exact hE
theorem cb_144_34 {X : Nat → Option zz_C} {h : zz_H} {t : cS} {s : mS} {d : Nat} {Q : zz_O → zz_H → Prop} {x1 : Int64} {x3 : Int32} {x4 : Int32} {y1 : Int32} (hR : kR h t s) (k : ∀ {h : zz_H}, kR h t s → zz_J zp_P zt_tf zt_fd X d zm_236 0 [(0, .ref 48), (1, .int y1)] [] h (zz_after 9 Q (fun v h' => zz_J zp_P zt_tf zt_fd X (d + 1) zm_144 37 [(0, .ref 49), (1, .long x1), (3, .int x3), (4, .int x4)] (v.toList ++ []) h' Q))) : zz_J zp_P zt_tf zt_fd X (d + 1) zm_144 34 [(0, .ref 49), (1, .long x1), (3, .int x3), (4, .int x4)] [.int y1, .ref 48] h Q := by
  refine zz_J.cv 37 (as := []) rfl rfl (hR.clO ko_48 (by decide) (by decide)) (by decide) (Nat.le_of_ble_eq_true rfl) (Nat.le_of_ble_eq_true rfl) rfl (Nat.le_of_ble_eq_true rfl) rfl ?_
  refine zz_J.mono (k hR) ?_
  intro o h' hE
  cases o with
  | inl v => exact zz_J.weak hE rfl ⟨rfl, rfl, rfl, rfl, trivial⟩
  | inr q => exact hE
theorem cb_144_37 {X : Nat → Option zz_C} {h : zz_H} {t : cS} {s : mS} {d : Nat} {Q : zz_O → zz_H → Prop} {x1 : Int64} {x3 : Int32} {x4 : Int32} {y0 : Int32} (hR : kR h t s) (k1 : ¬ y0 = 0 → (∀ {h : zz_H}, kR h t s → zz_J zp_P zt_tf zt_fd X d zm_144 52 [(0, .ref 49), (1, .long x1), (3, .int x3)] [] h Q)) (k2 : ¬ ¬ y0 = 0 → (∀ {h : zz_H}, kR h t s → zz_J zp_P zt_tf zt_fd X d zm_144 40 [(0, .ref 49), (4, .int x4)] [] h Q)) : zz_J zp_P zt_tf zt_fd X d zm_144 37 [(0, .ref 49), (1, .long x1), (3, .int x3), (4, .int x4)] [.int y0] h Q := by
  refine zz_J.b1 52 40 (A := ¬ y0 = 0) rfl (zz_cond_ne _ _) (by decide) rfl rfl (fun c => ?_) (fun c => ?_)
  · exact zz_J.weak (k1 c hR) rfl ⟨rfl, rfl, rfl, trivial⟩
  · exact zz_J.weak (k2 c hR) rfl ⟨rfl, rfl, trivial⟩
theorem cb_144_40 {X : Nat → Option zz_C} {h : zz_H} {t : cS} {s : mS} {d : Nat} {Q : zz_O → zz_H → Prop} {x4 : Int32} (hR : kR h t s) (k : ∀ {h : zz_H}, kR h t s → zz_J zp_P zt_tf zt_fd X d zm_156 0 [(0, .ref 49), (1, .int 11), (2, .int x4), (3, .int 0)] [] h (zz_after 3 Q (fun v h' => zz_J zp_P zt_tf zt_fd X (d + 1) zm_144 49 [] (v.toList ++ []) h' Q))) : zz_J zp_P zt_tf zt_fd X (d + 1) zm_144 40 [(0, .ref 49), (4, .int x4)] [] h Q := by
  refine zz_J.n 41 rfl rfl rfl ?_
  refine zz_J.c 43 (.int 11) rfl rfl rfl rfl ?_
  refine zz_J.n 45 rfl rfl rfl ?_
  refine zz_J.c 46 (.int 0) rfl rfl rfl rfl ?_
  refine zz_J.cv 49 (as := []) rfl rfl (hR.clO ko_49 (by decide) (by decide)) (by decide) (Nat.le_of_ble_eq_true rfl) (Nat.le_of_ble_eq_true rfl) rfl (Nat.le_of_ble_eq_true rfl) rfl ?_
  refine zz_J.mono (k hR) ?_
  intro o h' hE
  cases o with
  | inl v => exact zz_J.weak hE rfl trivial
  | inr q => exact hE
theorem cb_144_49 {X : Nat → Option zz_C} {h : zz_H} {t : cS} {s : mS} {d : Nat} {Q : zz_O → zz_H → Prop}  (hR : kR h t s) (k : ∀ {h : zz_H}, kR h t s → zz_J zp_P zt_tf zt_fd X d zm_144 71 [] [] h Q) : zz_J zp_P zt_tf zt_fd X d zm_144 49 [] [] h Q := by
  refine zz_J.n 71 rfl rfl rfl ?_
  exact zz_J.weak (k hR) rfl trivial
theorem cb_144_52 {X : Nat → Option zz_C} {h : zz_H} {t : cS} {s : mS} {d : Nat} {Q : zz_O → zz_H → Prop} {x1 : Int64} {x3 : Int32} (hR : kR h t s) (k : ∀ {h : zz_H}, kR h (jI t 49 8 (if (((kI t 49 8) - x3) : Int32) < 0 then 0 else ((kI t 49 8) - x3))) s → zz_J zp_P zt_tf zt_fd X d zm_165 0 [(0, .ref 49), (1, .long x1)] [] h (zz_after 3 Q (fun v h' => zz_J zp_P zt_tf zt_fd X (d + 1) zm_144 71 [] (v.toList ++ []) h' Q))) : zz_J zp_P zt_tf zt_fd X (d + 1) zm_144 52 [(0, .ref 49), (1, .long x1), (3, .int x3)] [] h Q := by
  refine zz_J.n 53 rfl rfl rfl ?_
  refine zz_J.n 54 rfl rfl rfl ?_
  refine zz_J.g 57 rfl (hR.gv (v := .int (kI t 49 8)) ko_49 (by decide) rfl) rfl ?_
  refine zz_J.n 58 rfl rfl rfl ?_
  refine zz_J.n 59 rfl rfl rfl ?_
  refine zz_J.c 60 (.int 0) rfl rfl rfl rfl ?_
  refine zz_J.spec 63 rfl rfl (by decide) rfl rfl rfl ?_
  obtain ⟨h1, eq1, hR⟩ := hR.pI (x := (if (((kI t 49 8) - x3) : Int32) < 0 then 0 else ((kI t 49 8) - x3))) (by decide) ko_49 (kpi_49_8 _) (Nat.le_of_ble_eq_true rfl) rfl
  refine zz_J.pv 66 rfl eq1 rfl ?_
  clear eq1
  refine zz_J.n 67 rfl rfl rfl ?_
  refine zz_J.n 68 rfl rfl rfl ?_
  refine zz_J.cv 71 (as := []) rfl rfl (hR.clO ko_49 (by decide) (by decide)) (by decide) (Nat.le_of_ble_eq_true rfl) (Nat.le_of_ble_eq_true rfl) rfl (Nat.le_of_ble_eq_true rfl) rfl ?_
  refine zz_J.mono (k hR) ?_
  intro o h' hE
  cases o with
  | inl v => exact zz_J.weak hE rfl trivial
  | inr q => exact hE
theorem cb_144_71 {X : Nat → Option zz_C} {h : zz_H} {t : cS} {s : mS} {d : Nat} {Q : zz_O → zz_H → Prop}  (hR : kR h t s) (k : ∀ {h : zz_H}, kR h t s → Q (.inl none) h) : zz_J zp_P zt_tf zt_fd X d zm_144 71 [] [] h Q := by
  refine zz_J.ret rfl rfl rfl ?_
  exact k hR
def cf_144_71 (N : Nat) (X : Nat → Option zz_C)  (t : cS) : kO := some (t, .inl none)
theorem cr_144_71 {X : Nat → Option zz_C} {s : mS} {N : Nat} {d : Nat} (hd : 10 ≤ d) {Q : zz_O → zz_H → Prop}  {h : zz_H} {t t' : cS} {o : kY} (hR : kR h t s) (hf : cf_144_71 N X  t = some (t', o)) (k : (∀ h', kR h' t' s → kE o Q h')) : zz_J zp_P zt_tf zt_fd X d zm_144 71 [] [] h Q := by
  unfold cf_144_71 at hf
  cases hf
  exact cb_144_71 hR  (fun {h} hR => k h hR)
def cf_144_52 (N : Nat) (X : Nat → Option zz_C) (x1 : Int64) (x3 : Int32) (t : cS) : kO := ko_call 3 (cf_165 N X x1 (jI t 49 8 (if (((kI t 49 8) - x3) : Int32) < 0 then 0 else ((kI t 49 8) - x3)))) (fun g1 v1 => co_v v1 (cf_144_71 N X  g1))
theorem cr_144_52 {X : Nat → Option zz_C} {s : mS} {N : Nat} {d : Nat} (hd : 10 ≤ d) {Q : zz_O → zz_H → Prop} {x1 : Int64} {x3 : Int32} {h : zz_H} {t t' : cS} {o : kY} (hR : kR h t s) (hf : cf_144_52 N X x1 x3 t = some (t', o)) (k : (∀ h', kR h' t' s → kE o Q h')) : zz_J zp_P zt_tf zt_fd X d zm_144 52 [(0, .ref 49), (1, .long x1), (3, .int x3)] [] h Q := by
  unfold cf_144_52 at hf
  obtain ⟨d', rfl⟩ : ∃ d', d = d' + 1 := ⟨d - 1, by omega⟩
  refine cb_144_52 hR  (fun {h} hR => ?_)
  rcases ko_call_ok hf with ⟨g1, v1, er, hf⟩ | ⟨g1, er, hq⟩
  · obtain ⟨hv, hf2⟩ := co_v_ok hf
    clear hf
    have hf := hf2
    clear hf2
    subst hv
    refine cr_165 (by omega) hR er (fun h hR => ?_)
    exact cr_144_71 hd hR hf k
  · refine cr_165 (by omega) hR er (fun h hR => ?_)
    exact ko_thrown hq hR k
def cf_144_49 (N : Nat) (X : Nat → Option zz_C)  (t : cS) : kO := cf_144_71 N X  t
theorem cr_144_49 {X : Nat → Option zz_C} {s : mS} {N : Nat} {d : Nat} (hd : 10 ≤ d) {Q : zz_O → zz_H → Prop}  {h : zz_H} {t t' : cS} {o : kY} (hR : kR h t s) (hf : cf_144_49 N X  t = some (t', o)) (k : (∀ h', kR h' t' s → kE o Q h')) : zz_J zp_P zt_tf zt_fd X d zm_144 49 [] [] h Q := by
  unfold cf_144_49 at hf
  exact cb_144_49 hR  (fun hR => cr_144_71 hd hR hf k)
def cf_144_40 (N : Nat) (X : Nat → Option zz_C) (x4 : Int32) (t : cS) : kO := ko_call 3 (cf_156 N X 11 x4 0 t) (fun g1 v1 => co_v v1 (cf_144_49 N X  g1))
theorem cr_144_40 {X : Nat → Option zz_C} {s : mS} {N : Nat} {d : Nat} (hd : 10 ≤ d) {Q : zz_O → zz_H → Prop} {x4 : Int32} {h : zz_H} {t t' : cS} {o : kY} (hR : kR h t s) (hf : cf_144_40 N X x4 t = some (t', o)) (k : (∀ h', kR h' t' s → kE o Q h')) : zz_J zp_P zt_tf zt_fd X d zm_144 40 [(0, .ref 49), (4, .int x4)] [] h Q := by
  unfold cf_144_40 at hf
  obtain ⟨d', rfl⟩ : ∃ d', d = d' + 1 := ⟨d - 1, by omega⟩
  refine cb_144_40 hR  (fun {h} hR => ?_)
  rcases ko_call_ok hf with ⟨g1, v1, er, hf⟩ | ⟨g1, er, hq⟩
  · obtain ⟨hv, hf2⟩ := co_v_ok hf
    clear hf
    have hf := hf2
    clear hf2
    subst hv
    refine cr_156 (by omega) hR er (fun h hR => ?_)
    exact cr_144_49 hd hR hf k
  · refine cr_156 (by omega) hR er (fun h hR => ?_)
    exact ko_thrown hq hR k
def cf_144_37 (N : Nat) (X : Nat → Option zz_C) (x1 : Int64) (x3 : Int32) (x4 : Int32) (y0 : Int32) (t : cS) : kO := if ¬ y0 = 0 then cf_144_52 N X x1 x3 t else cf_144_40 N X x4 t
theorem cr_144_37 {X : Nat → Option zz_C} {s : mS} {N : Nat} {d : Nat} (hd : 10 ≤ d) {Q : zz_O → zz_H → Prop} {x1 : Int64} {x3 : Int32} {x4 : Int32} {y0 : Int32} {h : zz_H} {t t' : cS} {o : kY} (hR : kR h t s) (hf : cf_144_37 N X x1 x3 x4 y0 t = some (t', o)) (k : (∀ h', kR h' t' s → kE o Q h')) : zz_J zp_P zt_tf zt_fd X d zm_144 37 [(0, .ref 49), (1, .long x1), (3, .int x3), (4, .int x4)] [.int y0] h Q := by
  unfold cf_144_37 at hf
  refine cb_144_37 hR  (fun c {h} hR => ?_) (fun c {h} hR => ?_)
  · rw [if_pos c] at hf
    exact cr_144_52 hd hR hf k
  · rw [if_neg c] at hf
    exact cr_144_40 hd hR hf k
def cf_144_34 (N : Nat) (X : Nat → Option zz_C) (x1 : Int64) (x3 : Int32) (x4 : Int32) (y1 : Int32) (t : cS) : kO := ko_call 9 (cf_236 N X y1 t) (fun g1 v1 => co_i v1 (fun y => cf_144_37 N X x1 x3 x4 y g1))
theorem cr_144_34 {X : Nat → Option zz_C} {s : mS} {N : Nat} {d : Nat} (hd : 10 ≤ d) {Q : zz_O → zz_H → Prop} {x1 : Int64} {x3 : Int32} {x4 : Int32} {y1 : Int32} {h : zz_H} {t t' : cS} {o : kY} (hR : kR h t s) (hf : cf_144_34 N X x1 x3 x4 y1 t = some (t', o)) (k : (∀ h', kR h' t' s → kE o Q h')) : zz_J zp_P zt_tf zt_fd X d zm_144 34 [(0, .ref 49), (1, .long x1), (3, .int x3), (4, .int x4)] [.int y1, .ref 48] h Q := by
  unfold cf_144_34 at hf
  obtain ⟨d', rfl⟩ : ∃ d', d = d' + 1 := ⟨d - 1, by omega⟩
  refine cb_144_34 hR  (fun {h} hR => ?_)
  rcases ko_call_ok hf with ⟨g1, v1, er, hf⟩ | ⟨g1, er, hq⟩
  · obtain ⟨y, hv, hf2⟩ := co_i_ok hf
    clear hf
    have hf := hf2
    clear hf2
    subst hv
    refine cr_236 (by omega) hR er (fun h hR => ?_)
    exact cr_144_37 hd hR hf k
  · refine cr_236 (by omega) hR er (fun h hR => ?_)
    exact ko_thrown hq hR k
def cf_144_22 (N : Nat) (X : Nat → Option zz_C) (x1 : Int64) (x3 : Int32) (x4 : Int32) (t : cS) : kO := ko_call 2 (cf_131 N X x1 t) (fun g1 v1 => co_i v1 (fun y => cf_144_34 N X x1 x3 x4 y g1))
theorem cr_144_22 {X : Nat → Option zz_C} {s : mS} {N : Nat} {d : Nat} (hd : 10 ≤ d) {Q : zz_O → zz_H → Prop} {x1 : Int64} {x3 : Int32} {x4 : Int32} {h : zz_H} {t t' : cS} {o : kY} (hR : kR h t s) (hf : cf_144_22 N X x1 x3 x4 t = some (t', o)) (k : (∀ h', kR h' t' s → kE o Q h')) : zz_J zp_P zt_tf zt_fd X d zm_144 22 [(0, .ref 49), (1, .long x1), (3, .int x3), (4, .int x4)] [] h Q := by
  unfold cf_144_22 at hf
  obtain ⟨d', rfl⟩ : ∃ d', d = d' + 1 := ⟨d - 1, by omega⟩
  refine cb_144_22 hR  (fun {h} hR => ?_)
  rcases ko_call_ok hf with ⟨g1, v1, er, hf⟩ | ⟨g1, er, hq⟩
  · obtain ⟨y, hv, hf2⟩ := co_i_ok hf
    clear hf
    have hf := hf2
    clear hf2
    subst hv
    refine cr_131 (by omega) hR er (fun h hR => ?_)
    exact cr_144_34 hd hR hf k
  · refine cr_131 (by omega) hR er (fun h hR => ?_)
    exact ko_thrown hq hR k
def cf_144_19 (N : Nat) (X : Nat → Option zz_C)  (t : cS) : kO := cf_144_71 N X  t
theorem cr_144_19 {X : Nat → Option zz_C} {s : mS} {N : Nat} {d : Nat} (hd : 10 ≤ d) {Q : zz_O → zz_H → Prop}  {h : zz_H} {t t' : cS} {o : kY} (hR : kR h t s) (hf : cf_144_19 N X  t = some (t', o)) (k : (∀ h', kR h' t' s → kE o Q h')) : zz_J zp_P zt_tf zt_fd X d zm_144 19 [] [] h Q := by
  unfold cf_144_19 at hf
  exact cb_144_19 hR  (fun hR => cr_144_71 hd hR hf k)
def cf_144_13 (N : Nat) (X : Nat → Option zz_C) (x4 : Int32) (y1 : Int32) (t : cS) : kO := ko_call 3 (cf_156 N X y1 x4 0 t) (fun g1 v1 => co_v v1 (cf_144_19 N X  g1))
theorem cr_144_13 {X : Nat → Option zz_C} {s : mS} {N : Nat} {d : Nat} (hd : 10 ≤ d) {Q : zz_O → zz_H → Prop} {x4 : Int32} {y1 : Int32} {h : zz_H} {t t' : cS} {o : kY} (hR : kR h t s) (hf : cf_144_13 N X x4 y1 t = some (t', o)) (k : (∀ h', kR h' t' s → kE o Q h')) : zz_J zp_P zt_tf zt_fd X d zm_144 13 [(4, .int x4)] [.int y1, .ref 49] h Q := by
  unfold cf_144_13 at hf
  obtain ⟨d', rfl⟩ : ∃ d', d = d' + 1 := ⟨d - 1, by omega⟩
  refine cb_144_13 hR  (fun {h} hR => ?_)
  rcases ko_call_ok hf with ⟨g1, v1, er, hf⟩ | ⟨g1, er, hq⟩
  · obtain ⟨hv, hf2⟩ := co_v_ok hf
    clear hf
    have hf := hf2
    clear hf2
    subst hv
    refine cr_156 (by omega) hR er (fun h hR => ?_)
    exact cr_144_19 hd hR hf k
  · refine cr_156 (by omega) hR er (fun h hR => ?_)
    exact ko_thrown hq hR k
def cf_144_8 (N : Nat) (X : Nat → Option zz_C) (x1 : Int64) (x4 : Int32) (t : cS) : kO := ko_call 1000 (cf_256 N X x1 t) (fun g1 v1 => co_i v1 (fun y => cf_144_13 N X x4 y g1))
theorem cr_144_8 {X : Nat → Option zz_C} {s : mS} {N : Nat} {d : Nat} (hd : 10 ≤ d) {Q : zz_O → zz_H → Prop} {x1 : Int64} {x4 : Int32} {h : zz_H} {t t' : cS} {o : kY} (hR : kR h t s) (hf : cf_144_8 N X x1 x4 t = some (t', o)) (k : (∀ h', kR h' t' s → kE o Q h')) : zz_J zp_P zt_tf zt_fd X d zm_144 8 [(0, .ref 49), (1, .long x1), (4, .int x4)] [] h Q := by
  unfold cf_144_8 at hf
  obtain ⟨d', rfl⟩ : ∃ d', d = d' + 1 := ⟨d - 1, by omega⟩
  refine cb_144_8 hR  (fun {h} hR => ?_)
  rcases ko_call_ok hf with ⟨g1, v1, er, hf⟩ | ⟨g1, er, hq⟩
  · obtain ⟨y, hv, hf2⟩ := co_i_ok hf
    clear hf
    have hf := hf2
    clear hf2
    subst hv
    refine cr_256 (by omega) hR er (fun h hR => ?_)
    exact cr_144_13 hd hR hf k
  · refine cr_256 (by omega) hR er (fun h hR => ?_)
    exact ko_thrown hq hR k
def cf_144_4 (N : Nat) (X : Nat → Option zz_C) (x1 : Int64) (x3 : Int32) (x4 : Int32) (y0 : Int32) (t : cS) : kO := if ¬ y0 = 4 then cf_144_22 N X x1 x3 x4 t else cf_144_8 N X x1 x4 t
theorem cr_144_4 {X : Nat → Option zz_C} {s : mS} {N : Nat} {d : Nat} (hd : 10 ≤ d) {Q : zz_O → zz_H → Prop} {x1 : Int64} {x3 : Int32} {x4 : Int32} {y0 : Int32} {h : zz_H} {t t' : cS} {o : kY} (hR : kR h t s) (hf : cf_144_4 N X x1 x3 x4 y0 t = some (t', o)) (k : (∀ h', kR h' t' s → kE o Q h')) : zz_J zp_P zt_tf zt_fd X d zm_144 4 [(0, .ref 49), (1, .long x1), (3, .int x3), (4, .int x4)] [.int y0] h Q := by
  unfold cf_144_4 at hf
  refine cb_144_4 hR  (fun c {h} hR => ?_) (fun c {h} hR => ?_)
  · rw [if_pos c] at hf
    exact cr_144_22 hd hR hf k
  · rw [if_neg c] at hf
    exact cr_144_8 hd hR hf k
def cf_144_0 (N : Nat) (X : Nat → Option zz_C) (x1 : Int64) (x3 : Int32) (x4 : Int32) (t : cS) : kO := ko_call 1000 (cf_255 N X x1 t) (fun g1 v1 => co_i v1 (fun y => cf_144_4 N X x1 x3 x4 y g1))
theorem cr_144_0 {X : Nat → Option zz_C} {s : mS} {N : Nat} {d : Nat} (hd : 10 ≤ d) {Q : zz_O → zz_H → Prop} {x1 : Int64} {x3 : Int32} {x4 : Int32} {h : zz_H} {t t' : cS} {o : kY} (hR : kR h t s) (hf : cf_144_0 N X x1 x3 x4 t = some (t', o)) (k : (∀ h', kR h' t' s → kE o Q h')) : zz_J zp_P zt_tf zt_fd X d zm_144 0 [(0, .ref 49), (1, .long x1), (3, .int x3), (4, .int x4)] [] h Q := by
  unfold cf_144_0 at hf
  obtain ⟨d', rfl⟩ : ∃ d', d = d' + 1 := ⟨d - 1, by omega⟩
  refine cb_144_0 hR  (fun {h} hR => ?_)
  rcases ko_call_ok hf with ⟨g1, v1, er, hf⟩ | ⟨g1, er, hq⟩
  · obtain ⟨y, hv, hf2⟩ := co_i_ok hf
    clear hf
    have hf := hf2
    clear hf2
    subst hv
    refine cr_255 (by omega) hR er (fun h hR => ?_)
    exact cr_144_4 hd hR hf k
  · refine cr_255 (by omega) hR er (fun h hR => ?_)
    exact ko_thrown hq hR k
/-- give -/
def cf_144 (N : Nat) (X : Nat → Option zz_C) (x1 : Int64) (x3 : Int32) (x4 : Int32) (t : cS) : kO := cf_144_0 N X x1 x3 x4 t
theorem cr_144 {X : Nat → Option zz_C} {s : mS} {N : Nat} {d : Nat} (hd : 10 ≤ d) {Q : zz_O → zz_H → Prop} {x1 : Int64} {x3 : Int32} {x4 : Int32} {h : zz_H} {t t' : cS} {o : kY} (hR : kR h t s) (hf : cf_144 N X x1 x3 x4 t = some (t', o)) (k : ∀ h', kR h' t' s → kE o Q h') : zz_J zp_P zt_tf zt_fd X d zm_144 0 [(0, .ref 49), (1, .long x1), (3, .int x3), (4, .int x4)] [] h Q := by
  unfold cf_144 at hf
  exact zz_J.weak (cr_144_0 hd hR hf k) rfl ⟨rfl, rfl, rfl, rfl, trivial⟩
/-! yX2_put (J)V -/
theorem cb_123_0 {X : Nat → Option zz_C} {h : zz_H} {t : cS} {s : mS} {d : Nat} {Q : zz_O → zz_H → Prop} {x1 : Int64} (hR : kR h t s) (k1 : ¬ (kI t 42 3) = (Int32.ofNat (kB t 44).1) → (∀ {h : zz_H}, kR h t s → zz_J zp_P zt_tf zt_fd X d zm_123 29 [(0, .ref 42), (1, .long x1)] [] h Q)) (k2 : ¬ ¬ (kI t 42 3) = (Int32.ofNat (kB t 44).1) → (∀ {h : zz_H}, kR h t s → zz_J zp_P zt_tf zt_fd X d zm_123 12 [(0, .ref 42), (1, .long x1)] [] h Q)) : zz_J zp_P zt_tf zt_fd X d zm_123 0 [(0, .ref 42), (1, .long x1)] [] h Q := by
  refine zz_J.n 1 rfl rfl rfl ?_
  refine zz_J.g 4 rfl (hR.gv (v := .int (kI t 42 3)) ko_42 (by decide) rfl) rfl ?_
  refine zz_J.n 5 rfl rfl rfl ?_
  refine zz_J.g 8 rfl (hR.gv (v := .ref (kD t 44)) ko_42 (by decide) rfl) rfl ?_
  refine zz_J.ln 9 rfl (hR.ln (w := (Int32.ofNat (kB t 44).1)) ka_44 rfl (by decide) rfl) rfl ?_
  refine zz_J.b2 29 12 (A := ¬ (kI t 42 3) = (Int32.ofNat (kB t 44).1)) rfl (zz_cond_ne _ _) (by decide) rfl rfl (fun c => ?_) (fun c => ?_)
  · exact zz_J.weak (k1 c hR) rfl ⟨rfl, rfl, trivial⟩
  · exact zz_J.weak (k2 c hR) rfl ⟨rfl, rfl, trivial⟩
theorem cb_123_12 {X : Nat → Option zz_C} {h : zz_H} {t : cS} {s : mS} {d : Nat} {Q : zz_O → zz_H → Prop} {x1 : Int64} (hR : kR h t s) (e0 : ¬ (2 * (kI t 42 3)) < 0 ∧ (Int32.toNatClampNeg (2 * (kI t 42 3))) ≤ 1000000 ∧ (kB t 44).1 ≤ 1000000 ∧ ¬ (2 * (kI t 42 3)) = Int32.ofNat (kB t 44).1 ∧ (kN t) + 1 < zz_out) (k : ∀ {h : zz_H}, kR h (jMv (jNL t (Int32.toNatClampNeg (2 * (kI t 42 3))) (kcp 0 (kB t 44).2 (Nat.min (kB t 44).1 (Int32.toNatClampNeg (2 * (kI t 42 3)))))) 44) s → zz_J zp_P zt_tf zt_fd X (d + 9) zm_123 29 [(0, .ref 42), (1, .long x1)] [] h Q) : zz_J zp_P zt_tf zt_fd X (d + 9) zm_123 12 [(0, .ref 42), (1, .long x1)] [] h Q := by
  refine zz_J.n 13 rfl rfl rfl ?_
  refine zz_J.n 14 rfl rfl rfl ?_
  refine zz_J.g 17 rfl (hR.gv (v := .ref (kD t 44)) ko_42 (by decide) rfl) rfl ?_
  refine zz_J.c 18 (.int 2) rfl rfl rfl rfl ?_
  refine zz_J.n 19 rfl rfl rfl ?_
  refine zz_J.g 22 rfl (hR.gv (v := .int (kI t 42 3)) ko_42 (by decide) rfl) rfl ?_
  refine zz_J.n 23 rfl rfl rfl ?_
  refine kq_copyl 26 rfl rfl hR (by omega) ka_44 rfl e0 (Nat.le_of_ble_eq_true rfl) (fun {h} hR => ?_)
  obtain ⟨h1, eq1, hR⟩ := hR.pMvl (k := 44) rfl (by decide) ko_42 (kpa_42_2) (Nat.le_of_ble_eq_true rfl) rfl rfl rfl ka_44
  refine zz_J.pv 29 rfl eq1 rfl ?_
  clear eq1
  exact zz_J.weak (k hR) rfl ⟨rfl, rfl, trivial⟩
theorem cb_123_29 {X : Nat → Option zz_C} {h : zz_H} {t : cS} {s : mS} {d : Nat} {Q : zz_O → zz_H → Prop} {x1 : Int64} (hR : kR h t s) (e0 : ¬ ((kI t 42 3) < 0 ∨ (kB t 44).1 ≤ (Int32.toNatClampNeg (kI t 42 3)))) (k : ∀ {h : zz_H}, kR h (jI (jB t 44 (vp_updL (kB t 44).2 (Int32.toNatClampNeg (kI t 42 3)) x1)) 42 3 ((kI t 42 3) + 1)) s → Q (.inl none) h) : zz_J zp_P zt_tf zt_fd X d zm_123 29 [(0, .ref 42), (1, .long x1)] [] h Q := by
  refine zz_J.n 30 rfl rfl rfl ?_
  refine zz_J.g 33 rfl (hR.gv (v := .ref (kD t 44)) ko_42 (by decide) rfl) rfl ?_
  refine zz_J.n 34 rfl rfl rfl ?_
  refine zz_J.g 37 rfl (hR.gv (v := .int (kI t 42 3)) ko_42 (by decide) rfl) rfl ?_
  refine zz_J.n 38 rfl rfl rfl ?_
  obtain ⟨h1, eq1, hR⟩ := hR.sl (x := x1) ka_44 rfl e0
  refine zz_J.sl 39 rfl eq1 rfl ?_
  clear eq1
  refine zz_J.n 40 rfl rfl rfl ?_
  refine zz_J.n 41 rfl rfl rfl ?_
  refine zz_J.g 44 rfl (hR.gv (v := .int (kI t 42 3)) ko_42 (by decide) rfl) rfl ?_
  refine zz_J.c 45 (.int 1) rfl rfl rfl rfl ?_
  refine zz_J.n 46 rfl rfl rfl ?_
  obtain ⟨h1, eq1, hR⟩ := hR.pI (x := ((kI t 42 3) + 1)) (by decide) ko_42 (kpi_42_3 _) (Nat.le_of_ble_eq_true rfl) rfl
  refine zz_J.pv 49 rfl eq1 rfl ?_
  clear eq1
  refine zz_J.ret rfl rfl rfl ?_
  exact k hR
def cf_123_29 (N : Nat) (X : Nat → Option zz_C) (x1 : Int64) (t : cS) : kO := if ¬ ((kI t 42 3) < 0 ∨ (kB t 44).1 ≤ (Int32.toNatClampNeg (kI t 42 3))) then (some ((jI (jB t 44 (vp_updL (kB t 44).2 (Int32.toNatClampNeg (kI t 42 3)) x1)) 42 3 ((kI t 42 3) + 1)), .inl none)) else none
theorem cr_123_29 {X : Nat → Option zz_C} {s : mS} {N : Nat} {d : Nat} (hd : 9 ≤ d) {Q : zz_O → zz_H → Prop} {x1 : Int64} {h : zz_H} {t t' : cS} {o : kY} (hR : kR h t s) (hf : cf_123_29 N X x1 t = some (t', o)) (k : (∀ h', kR h' t' s → kE o Q h')) : zz_J zp_P zt_tf zt_fd X d zm_123 29 [(0, .ref 42), (1, .long x1)] [] h Q := by
  unfold cf_123_29 at hf
  obtain ⟨e0, hf⟩ := ko_if hf
  cases hf
  exact cb_123_29 hR e0 (fun {h} hR => k h hR)
def cf_123_12 (N : Nat) (X : Nat → Option zz_C) (x1 : Int64) (t : cS) : kO := if ¬ (2 * (kI t 42 3)) < 0 ∧ (Int32.toNatClampNeg (2 * (kI t 42 3))) ≤ 1000000 ∧ (kB t 44).1 ≤ 1000000 ∧ ¬ (2 * (kI t 42 3)) = Int32.ofNat (kB t 44).1 ∧ (kN t) + 1 < zz_out then (cf_123_29 N X x1 (jMv (jNL t (Int32.toNatClampNeg (2 * (kI t 42 3))) (kcp 0 (kB t 44).2 (Nat.min (kB t 44).1 (Int32.toNatClampNeg (2 * (kI t 42 3)))))) 44)) else none
theorem cr_123_12 {X : Nat → Option zz_C} {s : mS} {N : Nat} {d : Nat} (hd : 9 ≤ d) {Q : zz_O → zz_H → Prop} {x1 : Int64} {h : zz_H} {t t' : cS} {o : kY} (hR : kR h t s) (hf : cf_123_12 N X x1 t = some (t', o)) (k : (∀ h', kR h' t' s → kE o Q h')) : zz_J zp_P zt_tf zt_fd X d zm_123 12 [(0, .ref 42), (1, .long x1)] [] h Q := by
  unfold cf_123_12 at hf
  obtain ⟨e0, hf⟩ := ko_if hf
  obtain ⟨d', rfl⟩ : ∃ d', d = d' + 9 := ⟨d - 9, by omega⟩
  exact cb_123_12 hR e0 (fun hR => cr_123_29 hd hR hf k)
def cf_123_0 (N : Nat) (X : Nat → Option zz_C) (x1 : Int64) (t : cS) : kO := if ¬ (kI t 42 3) = (Int32.ofNat (kB t 44).1) then cf_123_29 N X x1 t else cf_123_12 N X x1 t
theorem cr_123_0 {X : Nat → Option zz_C} {s : mS} {N : Nat} {d : Nat} (hd : 9 ≤ d) {Q : zz_O → zz_H → Prop} {x1 : Int64} {h : zz_H} {t t' : cS} {o : kY} (hR : kR h t s) (hf : cf_123_0 N X x1 t = some (t', o)) (k : (∀ h', kR h' t' s → kE o Q h')) : zz_J zp_P zt_tf zt_fd X d zm_123 0 [(0, .ref 42), (1, .long x1)] [] h Q := by
  unfold cf_123_0 at hf
  refine cb_123_0 hR  (fun c {h} hR => ?_) (fun c {h} hR => ?_)
  · rw [if_pos c] at hf
    exact cr_123_29 hd hR hf k
  · rw [if_neg c] at hf
    exact cr_123_12 hd hR hf k
/-- put -/
def cf_123 (N : Nat) (X : Nat → Option zz_C) (x1 : Int64) (t : cS) : kO := cf_123_0 N X x1 t
theorem cr_123 {X : Nat → Option zz_C} {s : mS} {N : Nat} {d : Nat} (hd : 9 ≤ d) {Q : zz_O → zz_H → Prop} {x1 : Int64} {h : zz_H} {t t' : cS} {o : kY} (hR : kR h t s) (hf : cf_123 N X x1 t = some (t', o)) (k : ∀ h', kR h' t' s → kE o Q h') : zz_J zp_P zt_tf zt_fd X d zm_123 0 [(0, .ref 42), (1, .long x1)] [] h Q := by
  unfold cf_123 at hf
  exact zz_J.weak (cr_123_0 hd hR hf k) rfl ⟨rfl, rfl, trivial⟩
/-! yX3_gather (I)V -/
theorem cb_145_0 {X : Nat → Option zz_C} {h : zz_H} {t : cS} {s : mS} {d : Nat} {Q : zz_O → zz_H → Prop} {x1 : Int32} (hR : kR h t s) (k : ∀ {h : zz_H}, kR h t s → zz_J zp_P zt_tf zt_fd X d zm_145 2 [(0, .ref 49), (2, .int x1)] [] h Q) : zz_J zp_P zt_tf zt_fd X d zm_145 0 [(0, .ref 49), (1, .int x1)] [] h Q := by
  refine zz_J.n 1 rfl rfl rfl ?_
  refine zz_J.n 2 rfl rfl rfl ?_
  exact zz_J.weak (k hR) rfl ⟨rfl, rfl, trivial⟩
theorem cb_145_2 {X : Nat → Option zz_C} {h : zz_H} {t : cS} {s : mS} {d : Nat} {Q : zz_O → zz_H → Prop} {x2 : Int32} (hR : kR h t s) (k1 : x2 ≤ 0 → (∀ {h : zz_H}, kR h t s → zz_J zp_P zt_tf zt_fd X d zm_145 24 [] [] h Q)) (k2 : ¬ x2 ≤ 0 → (∀ {h : zz_H}, kR h t s → zz_J zp_P zt_tf zt_fd X d zm_145 6 [(0, .ref 49), (2, .int x2)] [] h Q)) : zz_J zp_P zt_tf zt_fd X d zm_145 2 [(0, .ref 49), (2, .int x2)] [] h Q := by
  refine zz_J.n 3 rfl rfl rfl ?_
  refine zz_J.b1 24 6 (A := x2 ≤ 0) rfl rfl (by decide) rfl rfl (fun c => ?_) (fun c => ?_)
  · exact zz_J.weak (k1 c hR) rfl trivial
  · exact zz_J.weak (k2 c hR) rfl ⟨rfl, rfl, trivial⟩
theorem cb_145_6 {X : Nat → Option zz_C} {h : zz_H} {t : cS} {s : mS} {d : Nat} {Q : zz_O → zz_H → Prop} {x2 : Int32} (hR : kR h t s) (k : ∀ {h : zz_H}, kR h t s → zz_J zp_P zt_tf zt_fd X d zm_167 0 [(0, .ref 49), (1, .int x2)] [] h (zz_after 3 Q (fun v h' => zz_J zp_P zt_tf zt_fd X (d + 1) zm_145 15 [(0, .ref 49), (2, .int x2)] (v.toList ++ [.ref 42]) h' Q))) : zz_J zp_P zt_tf zt_fd X (d + 1) zm_145 6 [(0, .ref 49), (2, .int x2)] [] h Q := by
  refine zz_J.n 7 rfl rfl rfl ?_
  refine zz_J.g 10 rfl (hR.gv (v := .ref 42) ko_49 (by decide) rfl) rfl ?_
  refine zz_J.n 11 rfl rfl rfl ?_
  refine zz_J.n 12 rfl rfl rfl ?_
  refine zz_J.cv 15 (as := [.ref 42]) rfl rfl (hR.clO ko_49 (by decide) (by decide)) (by decide) (Nat.le_of_ble_eq_true rfl) (Nat.le_of_ble_eq_true rfl) rfl (Nat.le_of_ble_eq_true rfl) rfl ?_
  refine zz_J.mono (k hR) ?_
  intro o h' hE
  cases o with
  | inl v => exact zz_J.weak hE rfl ⟨rfl, rfl, trivial⟩
  | inr q => exact hE
theorem cb_145_15 {X : Nat → Option zz_C} {h : zz_H} {t : cS} {s : mS} {d : Nat} {Q : zz_O → zz_H → Prop} {x2 : Int32} {y1 : Int64} (hR : kR h t s) (k : ∀ {h : zz_H}, kR h t s → zz_J zp_P zt_tf zt_fd X d zm_123 0 [(0, .ref 42), (1, .long y1)] [] h (zz_after 2 Q (fun v h' => zz_J zp_P zt_tf zt_fd X (d + 1) zm_145 18 [(0, .ref 49), (2, .int x2)] (v.toList ++ []) h' Q))) : zz_J zp_P zt_tf zt_fd X (d + 1) zm_145 15 [(0, .ref 49), (2, .int x2)] [.long y1, .ref 42] h Q := by
  refine zz_J.cv 18 (as := []) rfl rfl (hR.clO ko_42 (by decide) (by decide)) (by decide) (Nat.le_of_ble_eq_true rfl) (Nat.le_of_ble_eq_true rfl) rfl (Nat.le_of_ble_eq_true rfl) rfl ?_
  refine zz_J.mono (k hR) ?_
  intro o h' hE
  cases o with
  | inl v => exact zz_J.weak hE rfl ⟨rfl, rfl, trivial⟩
  | inr q => exact hE
theorem cb_145_18 {X : Nat → Option zz_C} {h : zz_H} {t : cS} {s : mS} {d : Nat} {Q : zz_O → zz_H → Prop} {x2 : Int32} (hR : kR h t s) (k : ∀ {h : zz_H}, kR h t s → zz_J zp_P zt_tf zt_fd X d zm_145 2 [(0, .ref 49), (2, .int (x2 + (-1)))] [] h Q) : zz_J zp_P zt_tf zt_fd X d zm_145 18 [(0, .ref 49), (2, .int x2)] [] h Q := by
  refine zz_J.n 21 rfl rfl rfl ?_
  refine zz_J.n 2 rfl rfl rfl ?_
  exact zz_J.weak (k hR) rfl ⟨rfl, rfl, trivial⟩
theorem cb_145_24 {X : Nat → Option zz_C} {h : zz_H} {t : cS} {s : mS} {d : Nat} {Q : zz_O → zz_H → Prop}  (hR : kR h t s) (k : ∀ {h : zz_H}, kR h t s → Q (.inl none) h) : zz_J zp_P zt_tf zt_fd X d zm_145 24 [] [] h Q := by
  refine zz_J.ret rfl rfl rfl ?_
  exact k hR
def cf_145_24 (N : Nat) (X : Nat → Option zz_C)  (t : cS) : kO := some (t, .inl none)
theorem cr_145_24 {X : Nat → Option zz_C} {s : mS} {N : Nat} {d : Nat} (hd : 10 ≤ d) {Q : zz_O → zz_H → Prop}  {h : zz_H} {t t' : cS} {o : kY} (hR : kR h t s) (hf : cf_145_24 N X  t = some (t', o)) (k : (∀ h', kR h' t' s → kE o Q h')) : zz_J zp_P zt_tf zt_fd X d zm_145 24 [] [] h Q := by
  unfold cf_145_24 at hf
  cases hf
  exact cb_145_24 hR  (fun {h} hR => k h hR)
def cf_145_18 (N : Nat) (X : Nat → Option zz_C) (rc : Nat → Int32 → cS → kO) (x2 : Int32) (t : cS) : kO := rc 0 (x2 + (-1)) t
theorem cr_145_18 {X : Nat → Option zz_C} {s : mS} {N : Nat} {d : Nat} (hd : 10 ≤ d) {rc : Nat → Int32 → cS → kO} (hrc0 : ∀ {Q : zz_O → zz_H → Prop} {x2 : Int32} {h : zz_H} {t t' : cS} {o : kY}, kR h t s → rc 0 x2 t = some (t', o) → (∀ h', kR h' t' s → kE o Q h') → zz_J zp_P zt_tf zt_fd X d zm_145 2 [(0, .ref 49), (2, .int x2)] [] h Q) {Q : zz_O → zz_H → Prop} {x2 : Int32} {h : zz_H} {t t' : cS} {o : kY} (hR : kR h t s) (hf : cf_145_18 N X rc x2 t = some (t', o)) (k : (∀ h', kR h' t' s → kE o Q h')) : zz_J zp_P zt_tf zt_fd X d zm_145 18 [(0, .ref 49), (2, .int x2)] [] h Q := by
  unfold cf_145_18 at hf
  exact cb_145_18 hR  (fun hR => hrc0 hR hf k)
def cf_145_15 (N : Nat) (X : Nat → Option zz_C) (rc : Nat → Int32 → cS → kO) (x2 : Int32) (y1 : Int64) (t : cS) : kO := ko_call 2 (cf_123 N X y1 t) (fun g1 v1 => co_v v1 (cf_145_18 N X rc x2 g1))
theorem cr_145_15 {X : Nat → Option zz_C} {s : mS} {N : Nat} {d : Nat} (hd : 10 ≤ d) {rc : Nat → Int32 → cS → kO} (hrc0 : ∀ {Q : zz_O → zz_H → Prop} {x2 : Int32} {h : zz_H} {t t' : cS} {o : kY}, kR h t s → rc 0 x2 t = some (t', o) → (∀ h', kR h' t' s → kE o Q h') → zz_J zp_P zt_tf zt_fd X d zm_145 2 [(0, .ref 49), (2, .int x2)] [] h Q) {Q : zz_O → zz_H → Prop} {x2 : Int32} {y1 : Int64} {h : zz_H} {t t' : cS} {o : kY} (hR : kR h t s) (hf : cf_145_15 N X rc x2 y1 t = some (t', o)) (k : (∀ h', kR h' t' s → kE o Q h')) : zz_J zp_P zt_tf zt_fd X d zm_145 15 [(0, .ref 49), (2, .int x2)] [.long y1, .ref 42] h Q := by
  unfold cf_145_15 at hf
  obtain ⟨d', rfl⟩ : ∃ d', d = d' + 1 := ⟨d - 1, by omega⟩
  refine cb_145_15 hR  (fun {h} hR => ?_)
  rcases ko_call_ok hf with ⟨g1, v1, er, hf⟩ | ⟨g1, er, hq⟩
  · obtain ⟨hv, hf2⟩ := co_v_ok hf
    clear hf
    have hf := hf2
    clear hf2
    subst hv
    refine cr_123 (by omega) hR er (fun h hR => ?_)
    exact cr_145_18 hd hrc0 hR hf k
  · refine cr_123 (by omega) hR er (fun h hR => ?_)
    exact ko_thrown hq hR k
def cf_145_6 (N : Nat) (X : Nat → Option zz_C) (rc : Nat → Int32 → cS → kO) (x2 : Int32) (t : cS) : kO := ko_call 3 (cf_167 N X x2 t) (fun g1 v1 => co_l v1 (fun y => cf_145_15 N X rc x2 y g1))
theorem cr_145_6 {X : Nat → Option zz_C} {s : mS} {N : Nat} {d : Nat} (hd : 10 ≤ d) {rc : Nat → Int32 → cS → kO} (hrc0 : ∀ {Q : zz_O → zz_H → Prop} {x2 : Int32} {h : zz_H} {t t' : cS} {o : kY}, kR h t s → rc 0 x2 t = some (t', o) → (∀ h', kR h' t' s → kE o Q h') → zz_J zp_P zt_tf zt_fd X d zm_145 2 [(0, .ref 49), (2, .int x2)] [] h Q) {Q : zz_O → zz_H → Prop} {x2 : Int32} {h : zz_H} {t t' : cS} {o : kY} (hR : kR h t s) (hf : cf_145_6 N X rc x2 t = some (t', o)) (k : (∀ h', kR h' t' s → kE o Q h')) : zz_J zp_P zt_tf zt_fd X d zm_145 6 [(0, .ref 49), (2, .int x2)] [] h Q := by
  unfold cf_145_6 at hf
  obtain ⟨d', rfl⟩ : ∃ d', d = d' + 1 := ⟨d - 1, by omega⟩
  refine cb_145_6 hR  (fun {h} hR => ?_)
  rcases ko_call_ok hf with ⟨g1, v1, er, hf⟩ | ⟨g1, er, hq⟩
  · obtain ⟨y, hv, hf2⟩ := co_l_ok hf
    clear hf
    have hf := hf2
    clear hf2
    subst hv
    refine cr_167 (by omega) hR er (fun h hR => ?_)
    exact cr_145_15 hd hrc0 hR hf k
  · refine cr_167 (by omega) hR er (fun h hR => ?_)
    exact ko_thrown hq hR k
def cf_145_2 (N : Nat) (X : Nat → Option zz_C) (rc : Nat → Int32 → cS → kO) (x2 : Int32) (t : cS) : kO := if x2 ≤ 0 then cf_145_24 N X  t else cf_145_6 N X rc x2 t
theorem cr_145_2 {X : Nat → Option zz_C} {s : mS} {N : Nat} {d : Nat} (hd : 10 ≤ d) {rc : Nat → Int32 → cS → kO} (hrc0 : ∀ {Q : zz_O → zz_H → Prop} {x2 : Int32} {h : zz_H} {t t' : cS} {o : kY}, kR h t s → rc 0 x2 t = some (t', o) → (∀ h', kR h' t' s → kE o Q h') → zz_J zp_P zt_tf zt_fd X d zm_145 2 [(0, .ref 49), (2, .int x2)] [] h Q) {Q : zz_O → zz_H → Prop} {x2 : Int32} {h : zz_H} {t t' : cS} {o : kY} (hR : kR h t s) (hf : cf_145_2 N X rc x2 t = some (t', o)) (k : (∀ h', kR h' t' s → kE o Q h')) : zz_J zp_P zt_tf zt_fd X d zm_145 2 [(0, .ref 49), (2, .int x2)] [] h Q := by
  unfold cf_145_2 at hf
  refine cb_145_2 hR  (fun c {h} hR => ?_) (fun c {h} hR => ?_)
  · rw [if_pos c] at hf
    exact cr_145_24 hd hR hf k
  · rw [if_neg c] at hf
    exact cr_145_6 hd hrc0 hR hf k
def cf_145_L1 (N : Nat) (X : Nat → Option zz_C) : Nat → Nat → Int32 → cS → kO
  | 0, _, _, _ => none
  | n + 1, l, x2, t => if l = 0 then cf_145_2 N X (cf_145_L1 N X n) x2 t else none
theorem cr_145_L1 {X : Nat → Option zz_C} {s : mS} {N : Nat} {d : Nat} (hd : 10 ≤ d) : ∀ n : Nat, (∀ {Q : zz_O → zz_H → Prop} {x2 : Int32} {h : zz_H} {t t' : cS} {o : kY}, kR h t s → cf_145_L1 N X n 0 x2 t = some (t', o) → (∀ h', kR h' t' s → kE o Q h') → zz_J zp_P zt_tf zt_fd X d zm_145 2 [(0, .ref 49), (2, .int x2)] [] h Q) := by
  intro n
  induction n with
  | zero => exact (fun _ hf _ => by cases hf)
  | succ n ih =>
    have h0 := @ih
    intro Q _ h t t' o hR hf k
    unfold cf_145_L1 at hf
    rw [if_pos rfl] at hf
    exact cr_145_2 hd h0 hR hf k
def cf_145_0 (N : Nat) (X : Nat → Option zz_C) (x1 : Int32) (t : cS) : kO := cf_145_L1 N X N 0 x1 t
theorem cr_145_0 {X : Nat → Option zz_C} {s : mS} {N : Nat} {d : Nat} (hd : 10 ≤ d) {Q : zz_O → zz_H → Prop} {x1 : Int32} {h : zz_H} {t t' : cS} {o : kY} (hR : kR h t s) (hf : cf_145_0 N X x1 t = some (t', o)) (k : (∀ h', kR h' t' s → kE o Q h')) : zz_J zp_P zt_tf zt_fd X d zm_145 0 [(0, .ref 49), (1, .int x1)] [] h Q := by
  unfold cf_145_0 at hf
  exact cb_145_0 hR  (fun hR => cr_145_L1 hd N hR hf k)
/-- gather -/
def cf_145 (N : Nat) (X : Nat → Option zz_C) (x1 : Int32) (t : cS) : kO := cf_145_0 N X x1 t
theorem cr_145 {X : Nat → Option zz_C} {s : mS} {N : Nat} {d : Nat} (hd : 10 ≤ d) {Q : zz_O → zz_H → Prop} {x1 : Int32} {h : zz_H} {t t' : cS} {o : kY} (hR : kR h t s) (hf : cf_145 N X x1 t = some (t', o)) (k : ∀ h', kR h' t' s → kE o Q h') : zz_J zp_P zt_tf zt_fd X d zm_145 0 [(0, .ref 49), (1, .int x1)] [] h Q := by
  unfold cf_145 at hf
  exact zz_J.weak (cr_145_0 hd hR hf k) rfl ⟨rfl, rfl, trivial⟩
/-! yX2_gathered ()I -/
theorem cb_122_0 {X : Nat → Option zz_C} {h : zz_H} {t : cS} {s : mS} {d : Nat} {Q : zz_O → zz_H → Prop}  (hR : kR h t s) (k : ∀ {h : zz_H}, kR h t s → Q (.inl (some (.int (kI t 42 3)))) h) : zz_J zp_P zt_tf zt_fd X d zm_122 0 [(0, .ref 42)] [] h Q := by
  refine zz_J.n 1 rfl rfl rfl ?_
  refine zz_J.g 4 rfl (hR.gv (v := .int (kI t 42 3)) ko_42 (by decide) rfl) rfl ?_
  refine zz_J.ret rfl rfl rfl ?_
  exact k hR
def cf_122_0 (N : Nat) (X : Nat → Option zz_C)  (t : cS) : kO := some (t, .inl (some (.int (kI t 42 3))))
theorem cr_122_0 {X : Nat → Option zz_C} {s : mS} {N : Nat} {d : Nat} (hd : 0 ≤ d) {Q : zz_O → zz_H → Prop}  {h : zz_H} {t t' : cS} {o : kY} (hR : kR h t s) (hf : cf_122_0 N X  t = some (t', o)) (k : (∀ h', kR h' t' s → kE o Q h')) : zz_J zp_P zt_tf zt_fd X d zm_122 0 [(0, .ref 42)] [] h Q := by
  unfold cf_122_0 at hf
  cases hf
  exact cb_122_0 hR  (fun {h} hR => k h hR)
/-- gathered -/
def cf_122 (N : Nat) (X : Nat → Option zz_C)  (t : cS) : kO := cf_122_0 N X  t
theorem cr_122 {X : Nat → Option zz_C} {s : mS} {N : Nat} {d : Nat} (hd : 0 ≤ d) {Q : zz_O → zz_H → Prop}  {h : zz_H} {t t' : cS} {o : kY} (hR : kR h t s) (hf : cf_122 N X  t = some (t', o)) (k : ∀ h', kR h' t' s → kE o Q h') : zz_J zp_P zt_tf zt_fd X d zm_122 0 [(0, .ref 42)] [] h Q := by
  unfold cf_122 at hf
  exact zz_J.weak (cr_122_0 hd hR hf k) rfl ⟨rfl, trivial⟩
/-! yX2_putAll (JII)V -/
theorem cb_124_0 {X : Nat → Option zz_C} {h : zz_H} {t : cS} {s : mS} {d : Nat} {Q : zz_O → zz_H → Prop} {x1 : Int64} {x3 : Int32} {x4 : Int32} (hR : kR h t s) (k : ∀ {h : zz_H}, kR h t s → zz_J zp_P zt_tf zt_fd X d zm_124 3 [(0, .ref 42), (1, .long x1), (4, .int x4), (5, .int x3)] [] h Q) : zz_J zp_P zt_tf zt_fd X d zm_124 0 [(0, .ref 42), (1, .long x1), (3, .int x3), (4, .int x4)] [] h Q := by
  refine zz_J.n 1 rfl rfl rfl ?_
  refine zz_J.n 3 rfl rfl rfl ?_
  exact zz_J.weak (k hR) rfl ⟨rfl, rfl, rfl, rfl, trivial⟩
theorem cb_124_3 {X : Nat → Option zz_C} {h : zz_H} {t : cS} {s : mS} {d : Nat} {Q : zz_O → zz_H → Prop} {x1 : Int64} {x4 : Int32} {x5 : Int32} (hR : kR h t s) (k1 : x4 ≤ x5 → (∀ {h : zz_H}, kR h t s → zz_J zp_P zt_tf zt_fd X d zm_124 27 [] [] h Q)) (k2 : ¬ x4 ≤ x5 → (∀ {h : zz_H}, kR h t s → zz_J zp_P zt_tf zt_fd X d zm_124 10 [(0, .ref 42), (1, .long x1), (4, .int x4), (5, .int x5)] [] h Q)) : zz_J zp_P zt_tf zt_fd X d zm_124 3 [(0, .ref 42), (1, .long x1), (4, .int x4), (5, .int x5)] [] h Q := by
  refine zz_J.n 5 rfl rfl rfl ?_
  refine zz_J.n 7 rfl rfl rfl ?_
  refine zz_J.b2 27 10 (A := x4 ≤ x5) rfl rfl (by decide) rfl rfl (fun c => ?_) (fun c => ?_)
  · exact zz_J.weak (k1 c hR) rfl trivial
  · exact zz_J.weak (k2 c hR) rfl ⟨rfl, rfl, rfl, rfl, trivial⟩
theorem cb_124_10 {X : Nat → Option zz_C} {h : zz_H} {t : cS} {s : mS} {d : Nat} {Q : zz_O → zz_H → Prop} {x1 : Int64} {x4 : Int32} {x5 : Int32} (hR : kR h t s) (k : ∀ {h : zz_H}, kR h t s → zz_J zp_P zt_tf zt_fd X d zm_129 0 [(0, .ref 42), (1, .long x1), (3, .int x5)] [] h (zz_after 2 Q (fun v h' => zz_J zp_P zt_tf zt_fd X (d + 1) zm_124 18 [(0, .ref 42), (1, .long x1), (4, .int x4), (5, .int x5)] (v.toList ++ [.ref 42]) h' Q))) : zz_J zp_P zt_tf zt_fd X (d + 1) zm_124 10 [(0, .ref 42), (1, .long x1), (4, .int x4), (5, .int x5)] [] h Q := by
  refine zz_J.n 11 rfl rfl rfl ?_
  refine zz_J.n 12 rfl rfl rfl ?_
  refine zz_J.n 13 rfl rfl rfl ?_
  refine zz_J.n 15 rfl rfl rfl ?_
  refine zz_J.cv 18 (as := [.ref 42]) rfl rfl (hR.clO ko_42 (by decide) (by decide)) (by decide) (Nat.le_of_ble_eq_true rfl) (Nat.le_of_ble_eq_true rfl) rfl (Nat.le_of_ble_eq_true rfl) rfl ?_
  refine zz_J.mono (k hR) ?_
  intro o h' hE
  cases o with
  | inl v => exact zz_J.weak hE rfl ⟨rfl, rfl, rfl, rfl, trivial⟩
  | inr q => exact hE
theorem cb_124_18 {X : Nat → Option zz_C} {h : zz_H} {t : cS} {s : mS} {d : Nat} {Q : zz_O → zz_H → Prop} {x1 : Int64} {x4 : Int32} {x5 : Int32} {y1 : Int64} (hR : kR h t s) (k : ∀ {h : zz_H}, kR h t s → zz_J zp_P zt_tf zt_fd X d zm_123 0 [(0, .ref 42), (1, .long y1)] [] h (zz_after 2 Q (fun v h' => zz_J zp_P zt_tf zt_fd X (d + 1) zm_124 21 [(0, .ref 42), (1, .long x1), (4, .int x4), (5, .int x5)] (v.toList ++ []) h' Q))) : zz_J zp_P zt_tf zt_fd X (d + 1) zm_124 18 [(0, .ref 42), (1, .long x1), (4, .int x4), (5, .int x5)] [.long y1, .ref 42] h Q := by
  refine zz_J.cv 21 (as := []) rfl rfl (hR.clO ko_42 (by decide) (by decide)) (by decide) (Nat.le_of_ble_eq_true rfl) (Nat.le_of_ble_eq_true rfl) rfl (Nat.le_of_ble_eq_true rfl) rfl ?_
  refine zz_J.mono (k hR) ?_
  intro o h' hE
  cases o with
  | inl v => exact zz_J.weak hE rfl ⟨rfl, rfl, rfl, rfl, trivial⟩
  | inr q => exact hE
theorem cb_124_21 {X : Nat → Option zz_C} {h : zz_H} {t : cS} {s : mS} {d : Nat} {Q : zz_O → zz_H → Prop} {x1 : Int64} {x4 : Int32} {x5 : Int32} (hR : kR h t s) (k : ∀ {h : zz_H}, kR h t s → zz_J zp_P zt_tf zt_fd X d zm_124 3 [(0, .ref 42), (1, .long x1), (4, .int x4), (5, .int (x5 + 1))] [] h Q) : zz_J zp_P zt_tf zt_fd X d zm_124 21 [(0, .ref 42), (1, .long x1), (4, .int x4), (5, .int x5)] [] h Q := by
  refine zz_J.n 24 rfl rfl rfl ?_
  refine zz_J.n 3 rfl rfl rfl ?_
  exact zz_J.weak (k hR) rfl ⟨rfl, rfl, rfl, rfl, trivial⟩
theorem cb_124_27 {X : Nat → Option zz_C} {h : zz_H} {t : cS} {s : mS} {d : Nat} {Q : zz_O → zz_H → Prop}  (hR : kR h t s) (k : ∀ {h : zz_H}, kR h t s → Q (.inl none) h) : zz_J zp_P zt_tf zt_fd X d zm_124 27 [] [] h Q := by
  refine zz_J.ret rfl rfl rfl ?_
  exact k hR
def cf_124_27 (N : Nat) (X : Nat → Option zz_C)  (t : cS) : kO := some (t, .inl none)
theorem cr_124_27 {X : Nat → Option zz_C} {s : mS} {N : Nat} {d : Nat} (hd : 10 ≤ d) {Q : zz_O → zz_H → Prop}  {h : zz_H} {t t' : cS} {o : kY} (hR : kR h t s) (hf : cf_124_27 N X  t = some (t', o)) (k : (∀ h', kR h' t' s → kE o Q h')) : zz_J zp_P zt_tf zt_fd X d zm_124 27 [] [] h Q := by
  unfold cf_124_27 at hf
  cases hf
  exact cb_124_27 hR  (fun {h} hR => k h hR)
def cf_124_21 (N : Nat) (X : Nat → Option zz_C) (rc : Nat → Int64 → Int32 → Int32 → cS → kO) (x1 : Int64) (x4 : Int32) (x5 : Int32) (t : cS) : kO := rc 0 x1 x4 (x5 + 1) t
theorem cr_124_21 {X : Nat → Option zz_C} {s : mS} {N : Nat} {d : Nat} (hd : 10 ≤ d) {rc : Nat → Int64 → Int32 → Int32 → cS → kO} (hrc0 : ∀ {Q : zz_O → zz_H → Prop} {x1 : Int64} {x4 : Int32} {x5 : Int32} {h : zz_H} {t t' : cS} {o : kY}, kR h t s → rc 0 x1 x4 x5 t = some (t', o) → (∀ h', kR h' t' s → kE o Q h') → zz_J zp_P zt_tf zt_fd X d zm_124 3 [(0, .ref 42), (1, .long x1), (4, .int x4), (5, .int x5)] [] h Q) {Q : zz_O → zz_H → Prop} {x1 : Int64} {x4 : Int32} {x5 : Int32} {h : zz_H} {t t' : cS} {o : kY} (hR : kR h t s) (hf : cf_124_21 N X rc x1 x4 x5 t = some (t', o)) (k : (∀ h', kR h' t' s → kE o Q h')) : zz_J zp_P zt_tf zt_fd X d zm_124 21 [(0, .ref 42), (1, .long x1), (4, .int x4), (5, .int x5)] [] h Q := by
  unfold cf_124_21 at hf
  exact cb_124_21 hR  (fun hR => hrc0 hR hf k)
def cf_124_18 (N : Nat) (X : Nat → Option zz_C) (rc : Nat → Int64 → Int32 → Int32 → cS → kO) (x1 : Int64) (x4 : Int32) (x5 : Int32) (y1 : Int64) (t : cS) : kO := ko_call 2 (cf_123 N X y1 t) (fun g1 v1 => co_v v1 (cf_124_21 N X rc x1 x4 x5 g1))
theorem cr_124_18 {X : Nat → Option zz_C} {s : mS} {N : Nat} {d : Nat} (hd : 10 ≤ d) {rc : Nat → Int64 → Int32 → Int32 → cS → kO} (hrc0 : ∀ {Q : zz_O → zz_H → Prop} {x1 : Int64} {x4 : Int32} {x5 : Int32} {h : zz_H} {t t' : cS} {o : kY}, kR h t s → rc 0 x1 x4 x5 t = some (t', o) → (∀ h', kR h' t' s → kE o Q h') → zz_J zp_P zt_tf zt_fd X d zm_124 3 [(0, .ref 42), (1, .long x1), (4, .int x4), (5, .int x5)] [] h Q) {Q : zz_O → zz_H → Prop} {x1 : Int64} {x4 : Int32} {x5 : Int32} {y1 : Int64} {h : zz_H} {t t' : cS} {o : kY} (hR : kR h t s) (hf : cf_124_18 N X rc x1 x4 x5 y1 t = some (t', o)) (k : (∀ h', kR h' t' s → kE o Q h')) : zz_J zp_P zt_tf zt_fd X d zm_124 18 [(0, .ref 42), (1, .long x1), (4, .int x4), (5, .int x5)] [.long y1, .ref 42] h Q := by
  unfold cf_124_18 at hf
  obtain ⟨d', rfl⟩ : ∃ d', d = d' + 1 := ⟨d - 1, by omega⟩
  refine cb_124_18 hR  (fun {h} hR => ?_)
  rcases ko_call_ok hf with ⟨g1, v1, er, hf⟩ | ⟨g1, er, hq⟩
  · obtain ⟨hv, hf2⟩ := co_v_ok hf
    clear hf
    have hf := hf2
    clear hf2
    subst hv
    refine cr_123 (by omega) hR er (fun h hR => ?_)
    exact cr_124_21 hd hrc0 hR hf k
  · refine cr_123 (by omega) hR er (fun h hR => ?_)
    exact ko_thrown hq hR k
def cf_124_10 (N : Nat) (X : Nat → Option zz_C) (rc : Nat → Int64 → Int32 → Int32 → cS → kO) (x1 : Int64) (x4 : Int32) (x5 : Int32) (t : cS) : kO := ko_call 2 (cf_129 N X x1 x5 t) (fun g1 v1 => co_l v1 (fun y => cf_124_18 N X rc x1 x4 x5 y g1))
theorem cr_124_10 {X : Nat → Option zz_C} {s : mS} {N : Nat} {d : Nat} (hd : 10 ≤ d) {rc : Nat → Int64 → Int32 → Int32 → cS → kO} (hrc0 : ∀ {Q : zz_O → zz_H → Prop} {x1 : Int64} {x4 : Int32} {x5 : Int32} {h : zz_H} {t t' : cS} {o : kY}, kR h t s → rc 0 x1 x4 x5 t = some (t', o) → (∀ h', kR h' t' s → kE o Q h') → zz_J zp_P zt_tf zt_fd X d zm_124 3 [(0, .ref 42), (1, .long x1), (4, .int x4), (5, .int x5)] [] h Q) {Q : zz_O → zz_H → Prop} {x1 : Int64} {x4 : Int32} {x5 : Int32} {h : zz_H} {t t' : cS} {o : kY} (hR : kR h t s) (hf : cf_124_10 N X rc x1 x4 x5 t = some (t', o)) (k : (∀ h', kR h' t' s → kE o Q h')) : zz_J zp_P zt_tf zt_fd X d zm_124 10 [(0, .ref 42), (1, .long x1), (4, .int x4), (5, .int x5)] [] h Q := by
  unfold cf_124_10 at hf
  obtain ⟨d', rfl⟩ : ∃ d', d = d' + 1 := ⟨d - 1, by omega⟩
  refine cb_124_10 hR  (fun {h} hR => ?_)
  rcases ko_call_ok hf with ⟨g1, v1, er, hf⟩ | ⟨g1, er, hq⟩
  · obtain ⟨y, hv, hf2⟩ := co_l_ok hf
    clear hf
    have hf := hf2
    clear hf2
    subst hv
    refine cr_129 (by omega) hR er (fun h hR => ?_)
    exact cr_124_18 hd hrc0 hR hf k
  · refine cr_129 (by omega) hR er (fun h hR => ?_)
    exact ko_thrown hq hR k
def cf_124_3 (N : Nat) (X : Nat → Option zz_C) (rc : Nat → Int64 → Int32 → Int32 → cS → kO) (x1 : Int64) (x4 : Int32) (x5 : Int32) (t : cS) : kO := if x4 ≤ x5 then cf_124_27 N X  t else cf_124_10 N X rc x1 x4 x5 t
theorem cr_124_3 {X : Nat → Option zz_C} {s : mS} {N : Nat} {d : Nat} (hd : 10 ≤ d) {rc : Nat → Int64 → Int32 → Int32 → cS → kO} (hrc0 : ∀ {Q : zz_O → zz_H → Prop} {x1 : Int64} {x4 : Int32} {x5 : Int32} {h : zz_H} {t t' : cS} {o : kY}, kR h t s → rc 0 x1 x4 x5 t = some (t', o) → (∀ h', kR h' t' s → kE o Q h') → zz_J zp_P zt_tf zt_fd X d zm_124 3 [(0, .ref 42), (1, .long x1), (4, .int x4), (5, .int x5)] [] h Q) {Q : zz_O → zz_H → Prop} {x1 : Int64} {x4 : Int32} {x5 : Int32} {h : zz_H} {t t' : cS} {o : kY} (hR : kR h t s) (hf : cf_124_3 N X rc x1 x4 x5 t = some (t', o)) (k : (∀ h', kR h' t' s → kE o Q h')) : zz_J zp_P zt_tf zt_fd X d zm_124 3 [(0, .ref 42), (1, .long x1), (4, .int x4), (5, .int x5)] [] h Q := by
  unfold cf_124_3 at hf
  refine cb_124_3 hR  (fun c {h} hR => ?_) (fun c {h} hR => ?_)
  · rw [if_pos c] at hf
    exact cr_124_27 hd hR hf k
  · rw [if_neg c] at hf
    exact cr_124_10 hd hrc0 hR hf k
def cf_124_L1 (N : Nat) (X : Nat → Option zz_C) : Nat → Nat → Int64 → Int32 → Int32 → cS → kO
  | 0, _, _, _, _, _ => none
  | n + 1, l, x1, x4, x5, t => if l = 0 then cf_124_3 N X (cf_124_L1 N X n) x1 x4 x5 t else none
theorem cr_124_L1 {X : Nat → Option zz_C} {s : mS} {N : Nat} {d : Nat} (hd : 10 ≤ d) : ∀ n : Nat, (∀ {Q : zz_O → zz_H → Prop} {x1 : Int64} {x4 : Int32} {x5 : Int32} {h : zz_H} {t t' : cS} {o : kY}, kR h t s → cf_124_L1 N X n 0 x1 x4 x5 t = some (t', o) → (∀ h', kR h' t' s → kE o Q h') → zz_J zp_P zt_tf zt_fd X d zm_124 3 [(0, .ref 42), (1, .long x1), (4, .int x4), (5, .int x5)] [] h Q) := by
  intro n
  induction n with
  | zero => exact (fun _ hf _ => by cases hf)
  | succ n ih =>
    have h0 := @ih
    intro Q _ _ _ h t t' o hR hf k
    unfold cf_124_L1 at hf
    rw [if_pos rfl] at hf
    exact cr_124_3 hd h0 hR hf k
def cf_124_0 (N : Nat) (X : Nat → Option zz_C) (x1 : Int64) (x3 : Int32) (x4 : Int32) (t : cS) : kO := cf_124_L1 N X N 0 x1 x4 x3 t
theorem cr_124_0 {X : Nat → Option zz_C} {s : mS} {N : Nat} {d : Nat} (hd : 10 ≤ d) {Q : zz_O → zz_H → Prop} {x1 : Int64} {x3 : Int32} {x4 : Int32} {h : zz_H} {t t' : cS} {o : kY} (hR : kR h t s) (hf : cf_124_0 N X x1 x3 x4 t = some (t', o)) (k : (∀ h', kR h' t' s → kE o Q h')) : zz_J zp_P zt_tf zt_fd X d zm_124 0 [(0, .ref 42), (1, .long x1), (3, .int x3), (4, .int x4)] [] h Q := by
  unfold cf_124_0 at hf
  exact cb_124_0 hR  (fun hR => cr_124_L1 hd N hR hf k)
/-- putAll -/
def cf_124 (N : Nat) (X : Nat → Option zz_C) (x1 : Int64) (x3 : Int32) (x4 : Int32) (t : cS) : kO := cf_124_0 N X x1 x3 x4 t
theorem cr_124 {X : Nat → Option zz_C} {s : mS} {N : Nat} {d : Nat} (hd : 10 ≤ d) {Q : zz_O → zz_H → Prop} {x1 : Int64} {x3 : Int32} {x4 : Int32} {h : zz_H} {t t' : cS} {o : kY} (hR : kR h t s) (hf : cf_124 N X x1 x3 x4 t = some (t', o)) (k : ∀ h', kR h' t' s → kE o Q h') : zz_J zp_P zt_tf zt_fd X d zm_124 0 [(0, .ref 42), (1, .long x1), (3, .int x3), (4, .int x4)] [] h Q := by
  unfold cf_124 at hf
  exact zz_J.weak (cr_124_0 hd hR hf k) rfl ⟨rfl, rfl, rfl, rfl, trivial⟩
/-! yX8_putPart (JJJ)J -/
theorem cb_224_0 {X : Nat → Option zz_C} {h : zz_H} {t : cS} {s : mS} {d : Nat} {Q : zz_O → zz_H → Prop} {x1 : Int64} {x3 : Int64} {x5 : Int64} (hR : kR h t s) (k : ∀ {h : zz_H}, kR h t s → zz_J zp_P zt_tf zt_fd X d zm_255 0 [(0, .long x1)] [] h (zz_after 1000 Q (fun v h' => zz_J zp_P zt_tf zt_fd X (d + 1) zm_224 4 [(0, .ref 58), (1, .long x1), (3, .long x3), (5, .long x5)] (v.toList ++ []) h' Q))) : zz_J zp_P zt_tf zt_fd X (d + 1) zm_224 0 [(0, .ref 58), (1, .long x1), (3, .long x3), (5, .long x5)] [] h Q := by
  refine zz_J.n 1 rfl rfl rfl ?_
  refine zz_J.cl (M' := zm_255) 4 rfl rfl (by decide) rfl rfl ⟨rfl, Nat.le_of_ble_eq_true rfl⟩ rfl ?_
  refine zz_J.mono (k hR) ?_
  intro o h' hE
  cases o with
  | inl v => exact zz_J.weak hE rfl ⟨rfl, rfl, rfl, rfl, trivial⟩
  | inr q => exact hE
theorem cb_224_4 {X : Nat → Option zz_C} {h : zz_H} {t : cS} {s : mS} {d : Nat} {Q : zz_O → zz_H → Prop} {x1 : Int64} {x3 : Int64} {x5 : Int64} {y0 : Int32} (hR : kR h t s) (k1 : y0 = 3 → (∀ {h : zz_H}, kR h t s → zz_J zp_P zt_tf zt_fd X d zm_224 29 [(0, .ref 58), (1, .long x1), (3, .long x3), (5, .long x5), (7, .int y0)] [] h Q)) (k2 : ¬ y0 = 3 → (∀ {h : zz_H}, kR h t s → zz_J zp_P zt_tf zt_fd X d zm_224 12 [(0, .ref 58), (1, .long x1), (3, .long x3), (5, .long x5), (7, .int y0)] [] h Q)) : zz_J zp_P zt_tf zt_fd X d zm_224 4 [(0, .ref 58), (1, .long x1), (3, .long x3), (5, .long x5)] [.int y0] h Q := by
  refine zz_J.n 6 rfl rfl rfl ?_
  refine zz_J.n 8 rfl rfl rfl ?_
  refine zz_J.c 9 (.int 3) rfl rfl rfl rfl ?_
  refine zz_J.b2 29 12 (A := y0 = 3) rfl rfl (by decide) rfl rfl (fun c => ?_) (fun c => ?_)
  · exact zz_J.weak (k1 c hR) rfl ⟨rfl, rfl, rfl, rfl, rfl, trivial⟩
  · exact zz_J.weak (k2 c hR) rfl ⟨rfl, rfl, rfl, rfl, rfl, trivial⟩
theorem cb_224_12 {X : Nat → Option zz_C} {h : zz_H} {t : cS} {s : mS} {d : Nat} {Q : zz_O → zz_H → Prop} {x1 : Int64} {x3 : Int64} {x5 : Int64} {x7 : Int32} (hR : kR h t s) (k1 : x7 = 0 → (∀ {h : zz_H}, kR h t s → zz_J zp_P zt_tf zt_fd X d zm_224 33 [(0, .ref 58), (1, .long x1), (3, .long x3), (5, .long x5), (7, .int x7)] [] h Q)) (k2 : ¬ x7 = 0 → (∀ {h : zz_H}, kR h t s → zz_J zp_P zt_tf zt_fd X d zm_224 17 [(0, .ref 58), (1, .long x1), (3, .long x3), (5, .long x5), (7, .int x7)] [] h Q)) : zz_J zp_P zt_tf zt_fd X d zm_224 12 [(0, .ref 58), (1, .long x1), (3, .long x3), (5, .long x5), (7, .int x7)] [] h Q := by
  refine zz_J.n 14 rfl rfl rfl ?_
  refine zz_J.b1 33 17 (A := x7 = 0) rfl rfl (by decide) rfl rfl (fun c => ?_) (fun c => ?_)
  · exact zz_J.weak (k1 c hR) rfl ⟨rfl, rfl, rfl, rfl, rfl, trivial⟩
  · exact zz_J.weak (k2 c hR) rfl ⟨rfl, rfl, rfl, rfl, rfl, trivial⟩
theorem cb_224_17 {X : Nat → Option zz_C} {h : zz_H} {t : cS} {s : mS} {d : Nat} {Q : zz_O → zz_H → Prop} {x1 : Int64} {x3 : Int64} {x5 : Int64} {x7 : Int32} (hR : kR h t s) (k : ∀ {h : zz_H}, kR h t s → zz_J zp_P zt_tf zt_fd X d zm_255 0 [(0, .long x5)] [] h (zz_after 1000 Q (fun v h' => zz_J zp_P zt_tf zt_fd X (d + 1) zm_224 22 [(0, .ref 58), (1, .long x1), (3, .long x3), (5, .long x5), (7, .int x7)] (v.toList ++ []) h' Q))) : zz_J zp_P zt_tf zt_fd X (d + 1) zm_224 17 [(0, .ref 58), (1, .long x1), (3, .long x3), (5, .long x5), (7, .int x7)] [] h Q := by
  refine zz_J.n 19 rfl rfl rfl ?_
  refine zz_J.cl (M' := zm_255) 22 rfl rfl (by decide) rfl rfl ⟨rfl, Nat.le_of_ble_eq_true rfl⟩ rfl ?_
  refine zz_J.mono (k hR) ?_
  intro o h' hE
  cases o with
  | inl v => exact zz_J.weak hE rfl ⟨rfl, rfl, rfl, rfl, rfl, trivial⟩
  | inr q => exact hE
theorem cb_224_22 {X : Nat → Option zz_C} {h : zz_H} {t : cS} {s : mS} {d : Nat} {Q : zz_O → zz_H → Prop} {x1 : Int64} {x3 : Int64} {x5 : Int64} {x7 : Int32} {y0 : Int32} (hR : kR h t s) (k1 : ¬ y0 = (x7 - 1) → (∀ {h : zz_H}, kR h t s → zz_J zp_P zt_tf zt_fd X d zm_224 33 [(0, .ref 58), (1, .long x1), (3, .long x3), (5, .long x5), (7, .int x7)] [] h Q)) (k2 : ¬ ¬ y0 = (x7 - 1) → (∀ {h : zz_H}, kR h t s → zz_J zp_P zt_tf zt_fd X d zm_224 29 [(0, .ref 58), (1, .long x1), (3, .long x3), (5, .long x5), (7, .int x7)] [] h Q)) : zz_J zp_P zt_tf zt_fd X d zm_224 22 [(0, .ref 58), (1, .long x1), (3, .long x3), (5, .long x5), (7, .int x7)] [.int y0] h Q := by
  refine zz_J.n 24 rfl rfl rfl ?_
  refine zz_J.c 25 (.int 1) rfl rfl rfl rfl ?_
  refine zz_J.n 26 rfl rfl rfl ?_
  refine zz_J.b2 33 29 (A := ¬ y0 = (x7 - 1)) rfl (zz_cond_ne _ _) (by decide) rfl rfl (fun c => ?_) (fun c => ?_)
  · exact zz_J.weak (k1 c hR) rfl ⟨rfl, rfl, rfl, rfl, rfl, trivial⟩
  · exact zz_J.weak (k2 c hR) rfl ⟨rfl, rfl, rfl, rfl, rfl, trivial⟩
theorem cb_224_29 {X : Nat → Option zz_C} {h : zz_H} {t : cS} {s : mS} {d : Nat} {Q : zz_O → zz_H → Prop} {x1 : Int64} {x3 : Int64} {x5 : Int64} {x7 : Int32} (hR : kR h t s) (k : ∀ {h : zz_H}, kR h t s → zz_J zp_P zt_tf zt_fd X d zm_224 34 [(0, .ref 58), (1, .long x1), (3, .long x3), (5, .long x5), (7, .int x7)] [.int 1] h Q) : zz_J zp_P zt_tf zt_fd X d zm_224 29 [(0, .ref 58), (1, .long x1), (3, .long x3), (5, .long x5), (7, .int x7)] [] h Q := by
  refine zz_J.c 30 (.int 1) rfl rfl rfl rfl ?_
  refine zz_J.n 34 rfl rfl rfl ?_
  exact zz_J.weak (k hR) rfl ⟨rfl, rfl, rfl, rfl, rfl, trivial⟩
theorem cb_224_33 {X : Nat → Option zz_C} {h : zz_H} {t : cS} {s : mS} {d : Nat} {Q : zz_O → zz_H → Prop} {x1 : Int64} {x3 : Int64} {x5 : Int64} {x7 : Int32} (hR : kR h t s) (k : ∀ {h : zz_H}, kR h t s → zz_J zp_P zt_tf zt_fd X d zm_224 34 [(0, .ref 58), (1, .long x1), (3, .long x3), (5, .long x5), (7, .int x7)] [.int 0] h Q) : zz_J zp_P zt_tf zt_fd X d zm_224 33 [(0, .ref 58), (1, .long x1), (3, .long x3), (5, .long x5), (7, .int x7)] [] h Q := by
  refine zz_J.c 34 (.int 0) rfl rfl rfl rfl ?_
  exact zz_J.weak (k hR) rfl ⟨rfl, rfl, rfl, rfl, rfl, trivial⟩
theorem cb_224_34 {X : Nat → Option zz_C} {h : zz_H} {t : cS} {s : mS} {d : Nat} {Q : zz_O → zz_H → Prop} {x1 : Int64} {x3 : Int64} {x5 : Int64} {x7 : Int32} {y0 : Int32} (hR : kR h t s) (k1 : y0 = 0 → (∀ {h : zz_H}, kR h t s → zz_J zp_P zt_tf zt_fd X d zm_224 48 [] [] h Q)) (k2 : ¬ y0 = 0 → (∀ {h : zz_H}, kR h t s → zz_J zp_P zt_tf zt_fd X d zm_224 41 [(0, .ref 58), (1, .long x1), (3, .long x3), (5, .long x5), (7, .int x7)] [] h Q)) : zz_J zp_P zt_tf zt_fd X d zm_224 34 [(0, .ref 58), (1, .long x1), (3, .long x3), (5, .long x5), (7, .int x7)] [.int y0] h Q := by
  refine zz_J.n 36 rfl rfl rfl ?_
  refine zz_J.n 38 rfl rfl rfl ?_
  refine zz_J.b1 48 41 (A := y0 = 0) rfl rfl (by decide) rfl rfl (fun c => ?_) (fun c => ?_)
  · exact zz_J.weak (k1 c hR) rfl trivial
  · exact zz_J.weak (k2 c hR) rfl ⟨rfl, rfl, rfl, rfl, rfl, trivial⟩
theorem cb_224_41 {X : Nat → Option zz_C} {h : zz_H} {t : cS} {s : mS} {d : Nat} {Q : zz_O → zz_H → Prop} {x1 : Int64} {x3 : Int64} {x5 : Int64} {x7 : Int32} (hR : kR h t s) (k : ∀ {h : zz_H}, kR h t s → zz_J zp_P zt_tf zt_fd X d zm_255 0 [(0, .long x3)] [] h (zz_after 1000 Q (fun v h' => zz_J zp_P zt_tf zt_fd X (d + 1) zm_224 45 [(0, .ref 58), (1, .long x1), (3, .long x3), (5, .long x5), (7, .int x7)] (v.toList ++ []) h' Q))) : zz_J zp_P zt_tf zt_fd X (d + 1) zm_224 41 [(0, .ref 58), (1, .long x1), (3, .long x3), (5, .long x5), (7, .int x7)] [] h Q := by
  refine zz_J.n 42 rfl rfl rfl ?_
  refine zz_J.cl (M' := zm_255) 45 rfl rfl (by decide) rfl rfl ⟨rfl, Nat.le_of_ble_eq_true rfl⟩ rfl ?_
  refine zz_J.mono (k hR) ?_
  intro o h' hE
  cases o with
  | inl v => exact zz_J.weak hE rfl ⟨rfl, rfl, rfl, rfl, rfl, trivial⟩
  | inr q => exact hE
theorem cb_224_45 {X : Nat → Option zz_C} {h : zz_H} {t : cS} {s : mS} {d : Nat} {Q : zz_O → zz_H → Prop} {x1 : Int64} {x3 : Int64} {x5 : Int64} {x7 : Int32} {y0 : Int32} (hR : kR h t s) (k1 : y0 = 0 → (∀ {h : zz_H}, kR h t s → zz_J zp_P zt_tf zt_fd X d zm_224 53 [(0, .ref 58), (1, .long x1), (3, .long x3), (5, .long x5), (7, .int x7)] [] h Q)) (k2 : ¬ y0 = 0 → (∀ {h : zz_H}, kR h t s → zz_J zp_P zt_tf zt_fd X d zm_224 48 [] [] h Q)) : zz_J zp_P zt_tf zt_fd X d zm_224 45 [(0, .ref 58), (1, .long x1), (3, .long x3), (5, .long x5), (7, .int x7)] [.int y0] h Q := by
  refine zz_J.b1 53 48 (A := y0 = 0) rfl rfl (by decide) rfl rfl (fun c => ?_) (fun c => ?_)
  · exact zz_J.weak (k1 c hR) rfl ⟨rfl, rfl, rfl, rfl, rfl, trivial⟩
  · exact zz_J.weak (k2 c hR) rfl trivial
theorem cb_224_48 {X : Nat → Option zz_C} {h : zz_H} {t : cS} {s : mS} {d : Nat} {Q : zz_O → zz_H → Prop}  (hR : kR h t s) (k : ∀ {h : zz_H}, kR h t s → zz_J zp_P zt_tf zt_fd X d zm_254 0 [(0, .int 3)] [] h (zz_after 1000 Q (fun v h' => zz_J zp_P zt_tf zt_fd X (d + 1) zm_224 52 [] (v.toList ++ []) h' Q))) : zz_J zp_P zt_tf zt_fd X (d + 1) zm_224 48 [] [] h Q := by
  refine zz_J.c 49 (.int 3) rfl rfl rfl rfl ?_
  refine zz_J.cl (M' := zm_254) 52 rfl rfl (by decide) rfl rfl ⟨rfl, Nat.le_of_ble_eq_true rfl⟩ rfl ?_
  refine zz_J.mono (k hR) ?_
  intro o h' hE
  cases o with
  | inl v => exact zz_J.weak hE rfl trivial
  | inr q => exact hE
theorem cb_224_52 {X : Nat → Option zz_C} {h : zz_H} {t : cS} {s : mS} {d : Nat} {Q : zz_O → zz_H → Prop} {y0 : Int64} (hR : kR h t s) (k : ∀ {h : zz_H}, kR h t s → Q (.inl (some (.long y0))) h) : zz_J zp_P zt_tf zt_fd X d zm_224 52 [] [.long y0] h Q := by
  refine zz_J.ret rfl rfl rfl ?_
  exact k hR
theorem cb_224_53 {X : Nat → Option zz_C} {h : zz_H} {t : cS} {s : mS} {d : Nat} {Q : zz_O → zz_H → Prop} {x1 : Int64} {x3 : Int64} {x5 : Int64} {x7 : Int32} (hR : kR h t s) (k : ∀ {h : zz_H}, kR h t s → zz_J zp_P zt_tf zt_fd X d zm_256 0 [(0, .long x3)] [] h (zz_after 1000 Q (fun v h' => zz_J zp_P zt_tf zt_fd X (d + 1) zm_224 57 [(0, .ref 58), (1, .long x1), (5, .long x5), (7, .int x7)] (v.toList ++ []) h' Q))) : zz_J zp_P zt_tf zt_fd X (d + 1) zm_224 53 [(0, .ref 58), (1, .long x1), (3, .long x3), (5, .long x5), (7, .int x7)] [] h Q := by
  refine zz_J.n 54 rfl rfl rfl ?_
  refine zz_J.cl (M' := zm_256) 57 rfl rfl (by decide) rfl rfl ⟨rfl, Nat.le_of_ble_eq_true rfl⟩ rfl ?_
  refine zz_J.mono (k hR) ?_
  intro o h' hE
  cases o with
  | inl v => exact zz_J.weak hE rfl ⟨rfl, rfl, rfl, rfl, trivial⟩
  | inr q => exact hE
theorem cb_224_57 {X : Nat → Option zz_C} {h : zz_H} {t : cS} {s : mS} {d : Nat} {Q : zz_O → zz_H → Prop} {x1 : Int64} {x5 : Int64} {x7 : Int32} {y0 : Int32} (hR : kR h t s) (k : ∀ {h : zz_H}, kR h t s → zz_J zp_P zt_tf zt_fd X d zm_128 0 [(0, .ref 42), (1, .long x1)] [] h (zz_after 2 Q (fun v h' => zz_J zp_P zt_tf zt_fd X (d + 1) zm_224 67 [(0, .ref 58), (1, .long x1), (5, .long x5), (7, .int x7), (9, .int y0)] (v.toList ++ []) h' Q))) : zz_J zp_P zt_tf zt_fd X (d + 1) zm_224 57 [(0, .ref 58), (1, .long x1), (5, .long x5), (7, .int x7)] [.int y0] h Q := by
  refine zz_J.n 59 rfl rfl rfl ?_
  refine zz_J.n 60 rfl rfl rfl ?_
  refine zz_J.g 63 rfl (hR.gv (v := .ref 42) ko_58 (by decide) rfl) rfl ?_
  refine zz_J.n 64 rfl rfl rfl ?_
  refine zz_J.cv 67 (as := []) rfl rfl (hR.clO ko_42 (by decide) (by decide)) (by decide) (Nat.le_of_ble_eq_true rfl) (Nat.le_of_ble_eq_true rfl) rfl (Nat.le_of_ble_eq_true rfl) rfl ?_
  refine zz_J.mono (k hR) ?_
  intro o h' hE
  cases o with
  | inl v => exact zz_J.weak hE rfl ⟨rfl, rfl, rfl, rfl, rfl, trivial⟩
  | inr q => exact hE
theorem cb_224_67 {X : Nat → Option zz_C} {h : zz_H} {t : cS} {s : mS} {d : Nat} {Q : zz_O → zz_H → Prop} {x1 : Int64} {x5 : Int64} {x7 : Int32} {x9 : Int32} {y0 : Int32} (hR : kR h t s) (k1 : x9 < 0 → (∀ {h : zz_H}, kR h t s → zz_J zp_P zt_tf zt_fd X d zm_224 81 [] [] h Q)) (k2 : ¬ x9 < 0 → (∀ {h : zz_H}, kR h t s → zz_J zp_P zt_tf zt_fd X d zm_224 74 [(0, .ref 58), (1, .long x1), (5, .long x5), (7, .int x7), (9, .int x9), (10, .int y0)] [] h Q)) : zz_J zp_P zt_tf zt_fd X d zm_224 67 [(0, .ref 58), (1, .long x1), (5, .long x5), (7, .int x7), (9, .int x9)] [.int y0] h Q := by
  refine zz_J.n 69 rfl rfl rfl ?_
  refine zz_J.n 71 rfl rfl rfl ?_
  refine zz_J.b1 81 74 (A := x9 < 0) rfl rfl (by decide) rfl rfl (fun c => ?_) (fun c => ?_)
  · exact zz_J.weak (k1 c hR) rfl trivial
  · exact zz_J.weak (k2 c hR) rfl ⟨rfl, rfl, rfl, rfl, rfl, rfl, trivial⟩
theorem cb_224_74 {X : Nat → Option zz_C} {h : zz_H} {t : cS} {s : mS} {d : Nat} {Q : zz_O → zz_H → Prop} {x1 : Int64} {x5 : Int64} {x7 : Int32} {x9 : Int32} {x10 : Int32} (hR : kR h t s) (k1 : x9 < x10 → (∀ {h : zz_H}, kR h t s → zz_J zp_P zt_tf zt_fd X d zm_224 86 [(0, .ref 58), (1, .long x1), (5, .long x5), (7, .int x7), (9, .int x9), (10, .int x10)] [] h Q)) (k2 : ¬ x9 < x10 → (∀ {h : zz_H}, kR h t s → zz_J zp_P zt_tf zt_fd X d zm_224 81 [] [] h Q)) : zz_J zp_P zt_tf zt_fd X d zm_224 74 [(0, .ref 58), (1, .long x1), (5, .long x5), (7, .int x7), (9, .int x9), (10, .int x10)] [] h Q := by
  refine zz_J.n 76 rfl rfl rfl ?_
  refine zz_J.n 78 rfl rfl rfl ?_
  refine zz_J.b2 86 81 (A := x9 < x10) rfl rfl (by decide) rfl rfl (fun c => ?_) (fun c => ?_)
  · exact zz_J.weak (k1 c hR) rfl ⟨rfl, rfl, rfl, rfl, rfl, rfl, trivial⟩
  · exact zz_J.weak (k2 c hR) rfl trivial
theorem cb_224_81 {X : Nat → Option zz_C} {h : zz_H} {t : cS} {s : mS} {d : Nat} {Q : zz_O → zz_H → Prop}  (hR : kR h t s) (k : ∀ {h : zz_H}, kR h t s → zz_J zp_P zt_tf zt_fd X d zm_254 0 [(0, .int 5)] [] h (zz_after 1000 Q (fun v h' => zz_J zp_P zt_tf zt_fd X (d + 1) zm_224 85 [] (v.toList ++ []) h' Q))) : zz_J zp_P zt_tf zt_fd X (d + 1) zm_224 81 [] [] h Q := by
  refine zz_J.c 82 (.int 5) rfl rfl rfl rfl ?_
  refine zz_J.cl (M' := zm_254) 85 rfl rfl (by decide) rfl rfl ⟨rfl, Nat.le_of_ble_eq_true rfl⟩ rfl ?_
  refine zz_J.mono (k hR) ?_
  intro o h' hE
  cases o with
  | inl v => exact zz_J.weak hE rfl trivial
  | inr q => exact hE
theorem cb_224_85 {X : Nat → Option zz_C} {h : zz_H} {t : cS} {s : mS} {d : Nat} {Q : zz_O → zz_H → Prop} {y0 : Int64} (hR : kR h t s) (k : ∀ {h : zz_H}, kR h t s → Q (.inl (some (.long y0))) h) : zz_J zp_P zt_tf zt_fd X d zm_224 85 [] [.long y0] h Q := by
  refine zz_J.ret rfl rfl rfl ?_
  exact k hR
theorem cb_224_86 {X : Nat → Option zz_C} {h : zz_H} {t : cS} {s : mS} {d : Nat} {Q : zz_O → zz_H → Prop} {x1 : Int64} {x5 : Int64} {x7 : Int32} {x9 : Int32} {x10 : Int32} (hR : kR h t s) (k : ∀ {h : zz_H}, kR h t s → zz_J zp_P zt_tf zt_fd X d zm_122 0 [(0, .ref 42)] [] h (zz_after 2 Q (fun v h' => zz_J zp_P zt_tf zt_fd X (d + 1) zm_224 93 [(0, .ref 58), (1, .long x1), (5, .long x5), (7, .int x7), (9, .int x9), (10, .int x10)] (v.toList ++ []) h' Q))) : zz_J zp_P zt_tf zt_fd X (d + 1) zm_224 86 [(0, .ref 58), (1, .long x1), (5, .long x5), (7, .int x7), (9, .int x9), (10, .int x10)] [] h Q := by
  refine zz_J.n 87 rfl rfl rfl ?_
  refine zz_J.g 90 rfl (hR.gv (v := .ref 42) ko_58 (by decide) rfl) rfl ?_
  refine zz_J.cv 93 (as := []) rfl rfl (hR.clO ko_42 (by decide) (by decide)) (by decide) (Nat.le_of_ble_eq_true rfl) (Nat.le_of_ble_eq_true rfl) rfl (Nat.le_of_ble_eq_true rfl) rfl ?_
  refine zz_J.mono (k hR) ?_
  intro o h' hE
  cases o with
  | inl v => exact zz_J.weak hE rfl ⟨rfl, rfl, rfl, rfl, rfl, rfl, trivial⟩
  | inr q => exact hE
theorem cb_224_93 {X : Nat → Option zz_C} {h : zz_H} {t : cS} {s : mS} {d : Nat} {Q : zz_O → zz_H → Prop} {x1 : Int64} {x5 : Int64} {x7 : Int32} {x9 : Int32} {x10 : Int32} {y0 : Int32} (hR : kR h t s) (k : ∀ {h : zz_H}, kR h t s → zz_J zp_P zt_tf zt_fd X d zm_124 0 [(0, .ref 42), (1, .long x1), (3, .int 0), (4, .int x9)] [] h (zz_after 2 Q (fun v h' => zz_J zp_P zt_tf zt_fd X (d + 1) zm_224 106 [(0, .ref 58), (1, .long x1), (5, .long x5), (7, .int x7), (9, .int x9), (10, .int x10), (11, .int y0)] (v.toList ++ []) h' Q))) : zz_J zp_P zt_tf zt_fd X (d + 1) zm_224 93 [(0, .ref 58), (1, .long x1), (5, .long x5), (7, .int x7), (9, .int x9), (10, .int x10)] [.int y0] h Q := by
  refine zz_J.n 95 rfl rfl rfl ?_
  refine zz_J.n 96 rfl rfl rfl ?_
  refine zz_J.g 99 rfl (hR.gv (v := .ref 42) ko_58 (by decide) rfl) rfl ?_
  refine zz_J.n 100 rfl rfl rfl ?_
  refine zz_J.c 101 (.int 0) rfl rfl rfl rfl ?_
  refine zz_J.n 103 rfl rfl rfl ?_
  refine zz_J.cv 106 (as := []) rfl rfl (hR.clO ko_42 (by decide) (by decide)) (by decide) (Nat.le_of_ble_eq_true rfl) (Nat.le_of_ble_eq_true rfl) rfl (Nat.le_of_ble_eq_true rfl) rfl ?_
  refine zz_J.mono (k hR) ?_
  intro o h' hE
  cases o with
  | inl v => exact zz_J.weak hE rfl ⟨rfl, rfl, rfl, rfl, rfl, rfl, rfl, trivial⟩
  | inr q => exact hE
theorem cb_224_106 {X : Nat → Option zz_C} {h : zz_H} {t : cS} {s : mS} {d : Nat} {Q : zz_O → zz_H → Prop} {x1 : Int64} {x5 : Int64} {x7 : Int32} {x9 : Int32} {x10 : Int32} {x11 : Int32} (hR : kR h t s) (k : ∀ {h : zz_H}, kR h t s → zz_J zp_P zt_tf zt_fd X d zm_123 0 [(0, .ref 42), (1, .long x5)] [] h (zz_after 2 Q (fun v h' => zz_J zp_P zt_tf zt_fd X (d + 1) zm_224 115 [(0, .ref 58), (1, .long x1), (7, .int x7), (9, .int x9), (10, .int x10), (11, .int x11)] (v.toList ++ []) h' Q))) : zz_J zp_P zt_tf zt_fd X (d + 1) zm_224 106 [(0, .ref 58), (1, .long x1), (5, .long x5), (7, .int x7), (9, .int x9), (10, .int x10), (11, .int x11)] [] h Q := by
  refine zz_J.n 107 rfl rfl rfl ?_
  refine zz_J.g 110 rfl (hR.gv (v := .ref 42) ko_58 (by decide) rfl) rfl ?_
  refine zz_J.n 112 rfl rfl rfl ?_
  refine zz_J.cv 115 (as := []) rfl rfl (hR.clO ko_42 (by decide) (by decide)) (by decide) (Nat.le_of_ble_eq_true rfl) (Nat.le_of_ble_eq_true rfl) rfl (Nat.le_of_ble_eq_true rfl) rfl ?_
  refine zz_J.mono (k hR) ?_
  intro o h' hE
  cases o with
  | inl v => exact zz_J.weak hE rfl ⟨rfl, rfl, rfl, rfl, rfl, rfl, trivial⟩
  | inr q => exact hE
theorem cb_224_115 {X : Nat → Option zz_C} {h : zz_H} {t : cS} {s : mS} {d : Nat} {Q : zz_O → zz_H → Prop} {x1 : Int64} {x7 : Int32} {x9 : Int32} {x10 : Int32} {x11 : Int32} (hR : kR h t s) (k : ∀ {h : zz_H}, kR h t s → zz_J zp_P zt_tf zt_fd X d zm_124 0 [(0, .ref 42), (1, .long x1), (3, .int (x9 + 1)), (4, .int x10)] [] h (zz_after 2 Q (fun v h' => zz_J zp_P zt_tf zt_fd X (d + 1) zm_224 129 [(0, .ref 58), (7, .int x7), (11, .int x11)] (v.toList ++ []) h' Q))) : zz_J zp_P zt_tf zt_fd X (d + 1) zm_224 115 [(0, .ref 58), (1, .long x1), (7, .int x7), (9, .int x9), (10, .int x10), (11, .int x11)] [] h Q := by
  refine zz_J.n 116 rfl rfl rfl ?_
  refine zz_J.g 119 rfl (hR.gv (v := .ref 42) ko_58 (by decide) rfl) rfl ?_
  refine zz_J.n 120 rfl rfl rfl ?_
  refine zz_J.n 122 rfl rfl rfl ?_
  refine zz_J.c 123 (.int 1) rfl rfl rfl rfl ?_
  refine zz_J.n 124 rfl rfl rfl ?_
  refine zz_J.n 126 rfl rfl rfl ?_
  refine zz_J.cv 129 (as := []) rfl rfl (hR.clO ko_42 (by decide) (by decide)) (by decide) (Nat.le_of_ble_eq_true rfl) (Nat.le_of_ble_eq_true rfl) rfl (Nat.le_of_ble_eq_true rfl) rfl ?_
  refine zz_J.mono (k hR) ?_
  intro o h' hE
  cases o with
  | inl v => exact zz_J.weak hE rfl ⟨rfl, rfl, rfl, trivial⟩
  | inr q => exact hE
theorem cb_224_129 {X : Nat → Option zz_C} {h : zz_H} {t : cS} {s : mS} {d : Nat} {Q : zz_O → zz_H → Prop} {x7 : Int32} {x11 : Int32} (hR : kR h t s) (k : ∀ {h : zz_H}, kR h t s → zz_J zp_P zt_tf zt_fd X d zm_126 0 [(0, .ref 42), (1, .int x7), (2, .int x11)] [] h (zz_after 2 Q (fun v h' => zz_J zp_P zt_tf zt_fd X (d + 1) zm_224 140 [] (v.toList ++ []) h' Q))) : zz_J zp_P zt_tf zt_fd X (d + 1) zm_224 129 [(0, .ref 58), (7, .int x7), (11, .int x11)] [] h Q := by
  refine zz_J.n 130 rfl rfl rfl ?_
  refine zz_J.g 133 rfl (hR.gv (v := .ref 42) ko_58 (by decide) rfl) rfl ?_
  refine zz_J.n 135 rfl rfl rfl ?_
  refine zz_J.n 137 rfl rfl rfl ?_
  refine zz_J.cv 140 (as := []) rfl rfl (hR.clO ko_42 (by decide) (by decide)) (by decide) (Nat.le_of_ble_eq_true rfl) (Nat.le_of_ble_eq_true rfl) rfl (Nat.le_of_ble_eq_true rfl) rfl ?_
  refine zz_J.mono (k hR) ?_
  intro o h' hE
  cases o with
  | inl v => exact zz_J.weak hE rfl trivial
  | inr q => exact hE
theorem cb_224_140 {X : Nat → Option zz_C} {h : zz_H} {t : cS} {s : mS} {d : Nat} {Q : zz_O → zz_H → Prop} {y0 : Int64} (hR : kR h t s) (k : ∀ {h : zz_H}, kR h t s → Q (.inl (some (.long y0))) h) : zz_J zp_P zt_tf zt_fd X d zm_224 140 [] [.long y0] h Q := by
  refine zz_J.ret rfl rfl rfl ?_
  exact k hR
def cf_224_52 (N : Nat) (X : Nat → Option zz_C) (y0 : Int64) (t : cS) : kO := some (t, .inl (some (.long y0)))
theorem cr_224_52 {X : Nat → Option zz_C} {s : mS} {N : Nat} {d : Nat} (hd : 11 ≤ d) {Q : zz_O → zz_H → Prop} {y0 : Int64} {h : zz_H} {t t' : cS} {o : kY} (hR : kR h t s) (hf : cf_224_52 N X y0 t = some (t', o)) (k : (∀ h', kR h' t' s → kE o Q h')) : zz_J zp_P zt_tf zt_fd X d zm_224 52 [] [.long y0] h Q := by
  unfold cf_224_52 at hf
  cases hf
  exact cb_224_52 hR  (fun {h} hR => k h hR)
def cf_224_48 (N : Nat) (X : Nat → Option zz_C)  (t : cS) : kO := ko_call 1000 (cf_254 N X 3 t) (fun g1 v1 => co_l v1 (fun y => cf_224_52 N X y g1))
theorem cr_224_48 {X : Nat → Option zz_C} {s : mS} {N : Nat} {d : Nat} (hd : 11 ≤ d) {Q : zz_O → zz_H → Prop}  {h : zz_H} {t t' : cS} {o : kY} (hR : kR h t s) (hf : cf_224_48 N X  t = some (t', o)) (k : (∀ h', kR h' t' s → kE o Q h')) : zz_J zp_P zt_tf zt_fd X d zm_224 48 [] [] h Q := by
  unfold cf_224_48 at hf
  obtain ⟨d', rfl⟩ : ∃ d', d = d' + 1 := ⟨d - 1, by omega⟩
  refine cb_224_48 hR  (fun {h} hR => ?_)
  rcases ko_call_ok hf with ⟨g1, v1, er, hf⟩ | ⟨g1, er, hq⟩
  · obtain ⟨y, hv, hf2⟩ := co_l_ok hf
    clear hf
    have hf := hf2
    clear hf2
    subst hv
    refine cr_254 (by omega) hR er (fun h hR => ?_)
    exact cr_224_52 hd hR hf k
  · refine cr_254 (by omega) hR er (fun h hR => ?_)
    exact ko_thrown hq hR k
def cf_224_85 (N : Nat) (X : Nat → Option zz_C) (y0 : Int64) (t : cS) : kO := some (t, .inl (some (.long y0)))
theorem cr_224_85 {X : Nat → Option zz_C} {s : mS} {N : Nat} {d : Nat} (hd : 11 ≤ d) {Q : zz_O → zz_H → Prop} {y0 : Int64} {h : zz_H} {t t' : cS} {o : kY} (hR : kR h t s) (hf : cf_224_85 N X y0 t = some (t', o)) (k : (∀ h', kR h' t' s → kE o Q h')) : zz_J zp_P zt_tf zt_fd X d zm_224 85 [] [.long y0] h Q := by
  unfold cf_224_85 at hf
  cases hf
  exact cb_224_85 hR  (fun {h} hR => k h hR)
def cf_224_81 (N : Nat) (X : Nat → Option zz_C)  (t : cS) : kO := ko_call 1000 (cf_254 N X 5 t) (fun g1 v1 => co_l v1 (fun y => cf_224_85 N X y g1))
theorem cr_224_81 {X : Nat → Option zz_C} {s : mS} {N : Nat} {d : Nat} (hd : 11 ≤ d) {Q : zz_O → zz_H → Prop}  {h : zz_H} {t t' : cS} {o : kY} (hR : kR h t s) (hf : cf_224_81 N X  t = some (t', o)) (k : (∀ h', kR h' t' s → kE o Q h')) : zz_J zp_P zt_tf zt_fd X d zm_224 81 [] [] h Q := by
  unfold cf_224_81 at hf
  obtain ⟨d', rfl⟩ : ∃ d', d = d' + 1 := ⟨d - 1, by omega⟩
  refine cb_224_81 hR  (fun {h} hR => ?_)
  rcases ko_call_ok hf with ⟨g1, v1, er, hf⟩ | ⟨g1, er, hq⟩
  · obtain ⟨y, hv, hf2⟩ := co_l_ok hf
    clear hf
    have hf := hf2
    clear hf2
    subst hv
    refine cr_254 (by omega) hR er (fun h hR => ?_)
    exact cr_224_85 hd hR hf k
  · refine cr_254 (by omega) hR er (fun h hR => ?_)
    exact ko_thrown hq hR k
def cf_224_140 (N : Nat) (X : Nat → Option zz_C) (y0 : Int64) (t : cS) : kO := some (t, .inl (some (.long y0)))
theorem cr_224_140 {X : Nat → Option zz_C} {s : mS} {N : Nat} {d : Nat} (hd : 11 ≤ d) {Q : zz_O → zz_H → Prop} {y0 : Int64} {h : zz_H} {t t' : cS} {o : kY} (hR : kR h t s) (hf : cf_224_140 N X y0 t = some (t', o)) (k : (∀ h', kR h' t' s → kE o Q h')) : zz_J zp_P zt_tf zt_fd X d zm_224 140 [] [.long y0] h Q := by
  unfold cf_224_140 at hf
  cases hf
  exact cb_224_140 hR  (fun {h} hR => k h hR)
def cf_224_129 (N : Nat) (X : Nat → Option zz_C) (x7 : Int32) (x11 : Int32) (t : cS) : kO := ko_call 2 (cf_126 N X x7 x11 t) (fun g1 v1 => co_l v1 (fun y => cf_224_140 N X y g1))
theorem cr_224_129 {X : Nat → Option zz_C} {s : mS} {N : Nat} {d : Nat} (hd : 11 ≤ d) {Q : zz_O → zz_H → Prop} {x7 : Int32} {x11 : Int32} {h : zz_H} {t t' : cS} {o : kY} (hR : kR h t s) (hf : cf_224_129 N X x7 x11 t = some (t', o)) (k : (∀ h', kR h' t' s → kE o Q h')) : zz_J zp_P zt_tf zt_fd X d zm_224 129 [(0, .ref 58), (7, .int x7), (11, .int x11)] [] h Q := by
  unfold cf_224_129 at hf
  obtain ⟨d', rfl⟩ : ∃ d', d = d' + 1 := ⟨d - 1, by omega⟩
  refine cb_224_129 hR  (fun {h} hR => ?_)
  rcases ko_call_ok hf with ⟨g1, v1, er, hf⟩ | ⟨g1, er, hq⟩
  · obtain ⟨y, hv, hf2⟩ := co_l_ok hf
    clear hf
    have hf := hf2
    clear hf2
    subst hv
    refine cr_126 (by omega) hR er (fun h hR => ?_)
    exact cr_224_140 hd hR hf k
  · refine cr_126 (by omega) hR er (fun h hR => ?_)
    exact ko_thrown hq hR k
def cf_224_115 (N : Nat) (X : Nat → Option zz_C) (x1 : Int64) (x7 : Int32) (x9 : Int32) (x10 : Int32) (x11 : Int32) (t : cS) : kO := ko_call 2 (cf_124 N X x1 (x9 + 1) x10 t) (fun g1 v1 => co_v v1 (cf_224_129 N X x7 x11 g1))
theorem cr_224_115 {X : Nat → Option zz_C} {s : mS} {N : Nat} {d : Nat} (hd : 11 ≤ d) {Q : zz_O → zz_H → Prop} {x1 : Int64} {x7 : Int32} {x9 : Int32} {x10 : Int32} {x11 : Int32} {h : zz_H} {t t' : cS} {o : kY} (hR : kR h t s) (hf : cf_224_115 N X x1 x7 x9 x10 x11 t = some (t', o)) (k : (∀ h', kR h' t' s → kE o Q h')) : zz_J zp_P zt_tf zt_fd X d zm_224 115 [(0, .ref 58), (1, .long x1), (7, .int x7), (9, .int x9), (10, .int x10), (11, .int x11)] [] h Q := by
  unfold cf_224_115 at hf
  obtain ⟨d', rfl⟩ : ∃ d', d = d' + 1 := ⟨d - 1, by omega⟩
  refine cb_224_115 hR  (fun {h} hR => ?_)
  rcases ko_call_ok hf with ⟨g1, v1, er, hf⟩ | ⟨g1, er, hq⟩
  · obtain ⟨hv, hf2⟩ := co_v_ok hf
    clear hf
    have hf := hf2
    clear hf2
    subst hv
    refine cr_124 (by omega) hR er (fun h hR => ?_)
    exact cr_224_129 hd hR hf k
  · refine cr_124 (by omega) hR er (fun h hR => ?_)
    exact ko_thrown hq hR k
def cf_224_106 (N : Nat) (X : Nat → Option zz_C) (x1 : Int64) (x5 : Int64) (x7 : Int32) (x9 : Int32) (x10 : Int32) (x11 : Int32) (t : cS) : kO := ko_call 2 (cf_123 N X x5 t) (fun g1 v1 => co_v v1 (cf_224_115 N X x1 x7 x9 x10 x11 g1))
theorem cr_224_106 {X : Nat → Option zz_C} {s : mS} {N : Nat} {d : Nat} (hd : 11 ≤ d) {Q : zz_O → zz_H → Prop} {x1 : Int64} {x5 : Int64} {x7 : Int32} {x9 : Int32} {x10 : Int32} {x11 : Int32} {h : zz_H} {t t' : cS} {o : kY} (hR : kR h t s) (hf : cf_224_106 N X x1 x5 x7 x9 x10 x11 t = some (t', o)) (k : (∀ h', kR h' t' s → kE o Q h')) : zz_J zp_P zt_tf zt_fd X d zm_224 106 [(0, .ref 58), (1, .long x1), (5, .long x5), (7, .int x7), (9, .int x9), (10, .int x10), (11, .int x11)] [] h Q := by
  unfold cf_224_106 at hf
  obtain ⟨d', rfl⟩ : ∃ d', d = d' + 1 := ⟨d - 1, by omega⟩
  refine cb_224_106 hR  (fun {h} hR => ?_)
  rcases ko_call_ok hf with ⟨g1, v1, er, hf⟩ | ⟨g1, er, hq⟩
  · obtain ⟨hv, hf2⟩ := co_v_ok hf
    clear hf
    have hf := hf2
    clear hf2
    subst hv
    refine cr_123 (by omega) hR er (fun h hR => ?_)
    exact cr_224_115 hd hR hf k
  · refine cr_123 (by omega) hR er (fun h hR => ?_)
    exact ko_thrown hq hR k
def cf_224_93 (N : Nat) (X : Nat → Option zz_C) (x1 : Int64) (x5 : Int64) (x7 : Int32) (x9 : Int32) (x10 : Int32) (y0 : Int32) (t : cS) : kO := ko_call 2 (cf_124 N X x1 0 x9 t) (fun g1 v1 => co_v v1 (cf_224_106 N X x1 x5 x7 x9 x10 y0 g1))
theorem cr_224_93 {X : Nat → Option zz_C} {s : mS} {N : Nat} {d : Nat} (hd : 11 ≤ d) {Q : zz_O → zz_H → Prop} {x1 : Int64} {x5 : Int64} {x7 : Int32} {x9 : Int32} {x10 : Int32} {y0 : Int32} {h : zz_H} {t t' : cS} {o : kY} (hR : kR h t s) (hf : cf_224_93 N X x1 x5 x7 x9 x10 y0 t = some (t', o)) (k : (∀ h', kR h' t' s → kE o Q h')) : zz_J zp_P zt_tf zt_fd X d zm_224 93 [(0, .ref 58), (1, .long x1), (5, .long x5), (7, .int x7), (9, .int x9), (10, .int x10)] [.int y0] h Q := by
  unfold cf_224_93 at hf
  obtain ⟨d', rfl⟩ : ∃ d', d = d' + 1 := ⟨d - 1, by omega⟩
  refine cb_224_93 hR  (fun {h} hR => ?_)
  rcases ko_call_ok hf with ⟨g1, v1, er, hf⟩ | ⟨g1, er, hq⟩
  · obtain ⟨hv, hf2⟩ := co_v_ok hf
    clear hf
    have hf := hf2
    clear hf2
    subst hv
    refine cr_124 (by omega) hR er (fun h hR => ?_)
    exact cr_224_106 hd hR hf k
  · refine cr_124 (by omega) hR er (fun h hR => ?_)
    exact ko_thrown hq hR k
def cf_224_86 (N : Nat) (X : Nat → Option zz_C) (x1 : Int64) (x5 : Int64) (x7 : Int32) (x9 : Int32) (x10 : Int32) (t : cS) : kO := ko_call 2 (cf_122 N X  t) (fun g1 v1 => co_i v1 (fun y => cf_224_93 N X x1 x5 x7 x9 x10 y g1))
theorem cr_224_86 {X : Nat → Option zz_C} {s : mS} {N : Nat} {d : Nat} (hd : 11 ≤ d) {Q : zz_O → zz_H → Prop} {x1 : Int64} {x5 : Int64} {x7 : Int32} {x9 : Int32} {x10 : Int32} {h : zz_H} {t t' : cS} {o : kY} (hR : kR h t s) (hf : cf_224_86 N X x1 x5 x7 x9 x10 t = some (t', o)) (k : (∀ h', kR h' t' s → kE o Q h')) : zz_J zp_P zt_tf zt_fd X d zm_224 86 [(0, .ref 58), (1, .long x1), (5, .long x5), (7, .int x7), (9, .int x9), (10, .int x10)] [] h Q := by
  unfold cf_224_86 at hf
  obtain ⟨d', rfl⟩ : ∃ d', d = d' + 1 := ⟨d - 1, by omega⟩
  refine cb_224_86 hR  (fun {h} hR => ?_)
  rcases ko_call_ok hf with ⟨g1, v1, er, hf⟩ | ⟨g1, er, hq⟩
  · obtain ⟨y, hv, hf2⟩ := co_i_ok hf
    clear hf
    have hf := hf2
    clear hf2
    subst hv
    refine cr_122 (by omega) hR er (fun h hR => ?_)
    exact cr_224_93 hd hR hf k
  · refine cr_122 (by omega) hR er (fun h hR => ?_)
    exact ko_thrown hq hR k
def cf_224_74 (N : Nat) (X : Nat → Option zz_C) (x1 : Int64) (x5 : Int64) (x7 : Int32) (x9 : Int32) (x10 : Int32) (t : cS) : kO := if x9 < x10 then cf_224_86 N X x1 x5 x7 x9 x10 t else cf_224_81 N X  t
theorem cr_224_74 {X : Nat → Option zz_C} {s : mS} {N : Nat} {d : Nat} (hd : 11 ≤ d) {Q : zz_O → zz_H → Prop} {x1 : Int64} {x5 : Int64} {x7 : Int32} {x9 : Int32} {x10 : Int32} {h : zz_H} {t t' : cS} {o : kY} (hR : kR h t s) (hf : cf_224_74 N X x1 x5 x7 x9 x10 t = some (t', o)) (k : (∀ h', kR h' t' s → kE o Q h')) : zz_J zp_P zt_tf zt_fd X d zm_224 74 [(0, .ref 58), (1, .long x1), (5, .long x5), (7, .int x7), (9, .int x9), (10, .int x10)] [] h Q := by
  unfold cf_224_74 at hf
  refine cb_224_74 hR  (fun c {h} hR => ?_) (fun c {h} hR => ?_)
  · rw [if_pos c] at hf
    exact cr_224_86 hd hR hf k
  · rw [if_neg c] at hf
    exact cr_224_81 hd hR hf k
def cf_224_67 (N : Nat) (X : Nat → Option zz_C) (x1 : Int64) (x5 : Int64) (x7 : Int32) (x9 : Int32) (y0 : Int32) (t : cS) : kO := if x9 < 0 then cf_224_81 N X  t else cf_224_74 N X x1 x5 x7 x9 y0 t
theorem cr_224_67 {X : Nat → Option zz_C} {s : mS} {N : Nat} {d : Nat} (hd : 11 ≤ d) {Q : zz_O → zz_H → Prop} {x1 : Int64} {x5 : Int64} {x7 : Int32} {x9 : Int32} {y0 : Int32} {h : zz_H} {t t' : cS} {o : kY} (hR : kR h t s) (hf : cf_224_67 N X x1 x5 x7 x9 y0 t = some (t', o)) (k : (∀ h', kR h' t' s → kE o Q h')) : zz_J zp_P zt_tf zt_fd X d zm_224 67 [(0, .ref 58), (1, .long x1), (5, .long x5), (7, .int x7), (9, .int x9)] [.int y0] h Q := by
  unfold cf_224_67 at hf
  refine cb_224_67 hR  (fun c {h} hR => ?_) (fun c {h} hR => ?_)
  · rw [if_pos c] at hf
    exact cr_224_81 hd hR hf k
  · rw [if_neg c] at hf
    exact cr_224_74 hd hR hf k
def cf_224_57 (N : Nat) (X : Nat → Option zz_C) (x1 : Int64) (x5 : Int64) (x7 : Int32) (y0 : Int32) (t : cS) : kO := ko_call 2 (cf_128 N X x1 t) (fun g1 v1 => co_i v1 (fun y => cf_224_67 N X x1 x5 x7 y0 y g1))
theorem cr_224_57 {X : Nat → Option zz_C} {s : mS} {N : Nat} {d : Nat} (hd : 11 ≤ d) {Q : zz_O → zz_H → Prop} {x1 : Int64} {x5 : Int64} {x7 : Int32} {y0 : Int32} {h : zz_H} {t t' : cS} {o : kY} (hR : kR h t s) (hf : cf_224_57 N X x1 x5 x7 y0 t = some (t', o)) (k : (∀ h', kR h' t' s → kE o Q h')) : zz_J zp_P zt_tf zt_fd X d zm_224 57 [(0, .ref 58), (1, .long x1), (5, .long x5), (7, .int x7)] [.int y0] h Q := by
  unfold cf_224_57 at hf
  obtain ⟨d', rfl⟩ : ∃ d', d = d' + 1 := ⟨d - 1, by omega⟩
  refine cb_224_57 hR  (fun {h} hR => ?_)
  rcases ko_call_ok hf with ⟨g1, v1, er, hf⟩ | ⟨g1, er, hq⟩
  · obtain ⟨y, hv, hf2⟩ := co_i_ok hf
    clear hf
    have hf := hf2
    clear hf2
    subst hv
    refine cr_128 (by omega) hR er (fun h hR => ?_)
    exact cr_224_67 hd hR hf k
  · refine cr_128 (by omega) hR er (fun h hR => ?_)
    exact ko_thrown hq hR k
def cf_224_53 (N : Nat) (X : Nat → Option zz_C) (x1 : Int64) (x3 : Int64) (x5 : Int64) (x7 : Int32) (t : cS) : kO := ko_call 1000 (cf_256 N X x3 t) (fun g1 v1 => co_i v1 (fun y => cf_224_57 N X x1 x5 x7 y g1))
theorem cr_224_53 {X : Nat → Option zz_C} {s : mS} {N : Nat} {d : Nat} (hd : 11 ≤ d) {Q : zz_O → zz_H → Prop} {x1 : Int64} {x3 : Int64} {x5 : Int64} {x7 : Int32} {h : zz_H} {t t' : cS} {o : kY} (hR : kR h t s) (hf : cf_224_53 N X x1 x3 x5 x7 t = some (t', o)) (k : (∀ h', kR h' t' s → kE o Q h')) : zz_J zp_P zt_tf zt_fd X d zm_224 53 [(0, .ref 58), (1, .long x1), (3, .long x3), (5, .long x5), (7, .int x7)] [] h Q := by
  unfold cf_224_53 at hf
  obtain ⟨d', rfl⟩ : ∃ d', d = d' + 1 := ⟨d - 1, by omega⟩
  refine cb_224_53 hR  (fun {h} hR => ?_)
  rcases ko_call_ok hf with ⟨g1, v1, er, hf⟩ | ⟨g1, er, hq⟩
  · obtain ⟨y, hv, hf2⟩ := co_i_ok hf
    clear hf
    have hf := hf2
    clear hf2
    subst hv
    refine cr_256 (by omega) hR er (fun h hR => ?_)
    exact cr_224_57 hd hR hf k
  · refine cr_256 (by omega) hR er (fun h hR => ?_)
    exact ko_thrown hq hR k
def cf_224_45 (N : Nat) (X : Nat → Option zz_C) (x1 : Int64) (x3 : Int64) (x5 : Int64) (x7 : Int32) (y0 : Int32) (t : cS) : kO := if y0 = 0 then cf_224_53 N X x1 x3 x5 x7 t else cf_224_48 N X  t
theorem cr_224_45 {X : Nat → Option zz_C} {s : mS} {N : Nat} {d : Nat} (hd : 11 ≤ d) {Q : zz_O → zz_H → Prop} {x1 : Int64} {x3 : Int64} {x5 : Int64} {x7 : Int32} {y0 : Int32} {h : zz_H} {t t' : cS} {o : kY} (hR : kR h t s) (hf : cf_224_45 N X x1 x3 x5 x7 y0 t = some (t', o)) (k : (∀ h', kR h' t' s → kE o Q h')) : zz_J zp_P zt_tf zt_fd X d zm_224 45 [(0, .ref 58), (1, .long x1), (3, .long x3), (5, .long x5), (7, .int x7)] [.int y0] h Q := by
  unfold cf_224_45 at hf
  refine cb_224_45 hR  (fun c {h} hR => ?_) (fun c {h} hR => ?_)
  · rw [if_pos c] at hf
    exact cr_224_53 hd hR hf k
  · rw [if_neg c] at hf
    exact cr_224_48 hd hR hf k
def cf_224_41 (N : Nat) (X : Nat → Option zz_C) (x1 : Int64) (x3 : Int64) (x5 : Int64) (x7 : Int32) (t : cS) : kO := ko_call 1000 (cf_255 N X x3 t) (fun g1 v1 => co_i v1 (fun y => cf_224_45 N X x1 x3 x5 x7 y g1))
theorem cr_224_41 {X : Nat → Option zz_C} {s : mS} {N : Nat} {d : Nat} (hd : 11 ≤ d) {Q : zz_O → zz_H → Prop} {x1 : Int64} {x3 : Int64} {x5 : Int64} {x7 : Int32} {h : zz_H} {t t' : cS} {o : kY} (hR : kR h t s) (hf : cf_224_41 N X x1 x3 x5 x7 t = some (t', o)) (k : (∀ h', kR h' t' s → kE o Q h')) : zz_J zp_P zt_tf zt_fd X d zm_224 41 [(0, .ref 58), (1, .long x1), (3, .long x3), (5, .long x5), (7, .int x7)] [] h Q := by
  unfold cf_224_41 at hf
  obtain ⟨d', rfl⟩ : ∃ d', d = d' + 1 := ⟨d - 1, by omega⟩
  refine cb_224_41 hR  (fun {h} hR => ?_)
  rcases ko_call_ok hf with ⟨g1, v1, er, hf⟩ | ⟨g1, er, hq⟩
  · obtain ⟨y, hv, hf2⟩ := co_i_ok hf
    clear hf
    have hf := hf2
    clear hf2
    subst hv
    refine cr_255 (by omega) hR er (fun h hR => ?_)
    exact cr_224_45 hd hR hf k
  · refine cr_255 (by omega) hR er (fun h hR => ?_)
    exact ko_thrown hq hR k
def cf_224_34 (N : Nat) (X : Nat → Option zz_C) (x1 : Int64) (x3 : Int64) (x5 : Int64) (x7 : Int32) (y0 : Int32) (t : cS) : kO := if y0 = 0 then cf_224_48 N X  t else cf_224_41 N X x1 x3 x5 x7 t
theorem cr_224_34 {X : Nat → Option zz_C} {s : mS} {N : Nat} {d : Nat} (hd : 11 ≤ d) {Q : zz_O → zz_H → Prop} {x1 : Int64} {x3 : Int64} {x5 : Int64} {x7 : Int32} {y0 : Int32} {h : zz_H} {t t' : cS} {o : kY} (hR : kR h t s) (hf : cf_224_34 N X x1 x3 x5 x7 y0 t = some (t', o)) (k : (∀ h', kR h' t' s → kE o Q h')) : zz_J zp_P zt_tf zt_fd X d zm_224 34 [(0, .ref 58), (1, .long x1), (3, .long x3), (5, .long x5), (7, .int x7)] [.int y0] h Q := by
  unfold cf_224_34 at hf
  refine cb_224_34 hR  (fun c {h} hR => ?_) (fun c {h} hR => ?_)
  · rw [if_pos c] at hf
    exact cr_224_48 hd hR hf k
  · rw [if_neg c] at hf
    exact cr_224_41 hd hR hf k
def cf_224_29 (N : Nat) (X : Nat → Option zz_C) (x1 : Int64) (x3 : Int64) (x5 : Int64) (x7 : Int32) (t : cS) : kO := cf_224_34 N X x1 x3 x5 x7 1 t
theorem cr_224_29 {X : Nat → Option zz_C} {s : mS} {N : Nat} {d : Nat} (hd : 11 ≤ d) {Q : zz_O → zz_H → Prop} {x1 : Int64} {x3 : Int64} {x5 : Int64} {x7 : Int32} {h : zz_H} {t t' : cS} {o : kY} (hR : kR h t s) (hf : cf_224_29 N X x1 x3 x5 x7 t = some (t', o)) (k : (∀ h', kR h' t' s → kE o Q h')) : zz_J zp_P zt_tf zt_fd X d zm_224 29 [(0, .ref 58), (1, .long x1), (3, .long x3), (5, .long x5), (7, .int x7)] [] h Q := by
  unfold cf_224_29 at hf
  exact cb_224_29 hR  (fun hR => cr_224_34 hd hR hf k)
def cf_224_33 (N : Nat) (X : Nat → Option zz_C) (x1 : Int64) (x3 : Int64) (x5 : Int64) (x7 : Int32) (t : cS) : kO := cf_224_34 N X x1 x3 x5 x7 0 t
theorem cr_224_33 {X : Nat → Option zz_C} {s : mS} {N : Nat} {d : Nat} (hd : 11 ≤ d) {Q : zz_O → zz_H → Prop} {x1 : Int64} {x3 : Int64} {x5 : Int64} {x7 : Int32} {h : zz_H} {t t' : cS} {o : kY} (hR : kR h t s) (hf : cf_224_33 N X x1 x3 x5 x7 t = some (t', o)) (k : (∀ h', kR h' t' s → kE o Q h')) : zz_J zp_P zt_tf zt_fd X d zm_224 33 [(0, .ref 58), (1, .long x1), (3, .long x3), (5, .long x5), (7, .int x7)] [] h Q := by
  unfold cf_224_33 at hf
  exact cb_224_33 hR  (fun hR => cr_224_34 hd hR hf k)
def cf_224_22 (N : Nat) (X : Nat → Option zz_C) (x1 : Int64) (x3 : Int64) (x5 : Int64) (x7 : Int32) (y0 : Int32) (t : cS) : kO := if ¬ y0 = (x7 - 1) then cf_224_33 N X x1 x3 x5 x7 t else cf_224_29 N X x1 x3 x5 x7 t
theorem cr_224_22 {X : Nat → Option zz_C} {s : mS} {N : Nat} {d : Nat} (hd : 11 ≤ d) {Q : zz_O → zz_H → Prop} {x1 : Int64} {x3 : Int64} {x5 : Int64} {x7 : Int32} {y0 : Int32} {h : zz_H} {t t' : cS} {o : kY} (hR : kR h t s) (hf : cf_224_22 N X x1 x3 x5 x7 y0 t = some (t', o)) (k : (∀ h', kR h' t' s → kE o Q h')) : zz_J zp_P zt_tf zt_fd X d zm_224 22 [(0, .ref 58), (1, .long x1), (3, .long x3), (5, .long x5), (7, .int x7)] [.int y0] h Q := by
  unfold cf_224_22 at hf
  refine cb_224_22 hR  (fun c {h} hR => ?_) (fun c {h} hR => ?_)
  · rw [if_pos c] at hf
    exact cr_224_33 hd hR hf k
  · rw [if_neg c] at hf
    exact cr_224_29 hd hR hf k
def cf_224_17 (N : Nat) (X : Nat → Option zz_C) (x1 : Int64) (x3 : Int64) (x5 : Int64) (x7 : Int32) (t : cS) : kO := ko_call 1000 (cf_255 N X x5 t) (fun g1 v1 => co_i v1 (fun y => cf_224_22 N X x1 x3 x5 x7 y g1))
theorem cr_224_17 {X : Nat → Option zz_C} {s : mS} {N : Nat} {d : Nat} (hd : 11 ≤ d) {Q : zz_O → zz_H → Prop} {x1 : Int64} {x3 : Int64} {x5 : Int64} {x7 : Int32} {h : zz_H} {t t' : cS} {o : kY} (hR : kR h t s) (hf : cf_224_17 N X x1 x3 x5 x7 t = some (t', o)) (k : (∀ h', kR h' t' s → kE o Q h')) : zz_J zp_P zt_tf zt_fd X d zm_224 17 [(0, .ref 58), (1, .long x1), (3, .long x3), (5, .long x5), (7, .int x7)] [] h Q := by
  unfold cf_224_17 at hf
  obtain ⟨d', rfl⟩ : ∃ d', d = d' + 1 := ⟨d - 1, by omega⟩
  refine cb_224_17 hR  (fun {h} hR => ?_)
  rcases ko_call_ok hf with ⟨g1, v1, er, hf⟩ | ⟨g1, er, hq⟩
  · obtain ⟨y, hv, hf2⟩ := co_i_ok hf
    clear hf
    have hf := hf2
    clear hf2
    subst hv
    refine cr_255 (by omega) hR er (fun h hR => ?_)
    exact cr_224_22 hd hR hf k
  · refine cr_255 (by omega) hR er (fun h hR => ?_)
    exact ko_thrown hq hR k
def cf_224_12 (N : Nat) (X : Nat → Option zz_C) (x1 : Int64) (x3 : Int64) (x5 : Int64) (x7 : Int32) (t : cS) : kO := if x7 = 0 then cf_224_33 N X x1 x3 x5 x7 t else cf_224_17 N X x1 x3 x5 x7 t
theorem cr_224_12 {X : Nat → Option zz_C} {s : mS} {N : Nat} {d : Nat} (hd : 11 ≤ d) {Q : zz_O → zz_H → Prop} {x1 : Int64} {x3 : Int64} {x5 : Int64} {x7 : Int32} {h : zz_H} {t t' : cS} {o : kY} (hR : kR h t s) (hf : cf_224_12 N X x1 x3 x5 x7 t = some (t', o)) (k : (∀ h', kR h' t' s → kE o Q h')) : zz_J zp_P zt_tf zt_fd X d zm_224 12 [(0, .ref 58), (1, .long x1), (3, .long x3), (5, .long x5), (7, .int x7)] [] h Q := by
  unfold cf_224_12 at hf
  refine cb_224_12 hR  (fun c {h} hR => ?_) (fun c {h} hR => ?_)
  · rw [if_pos c] at hf
    exact cr_224_33 hd hR hf k
  · rw [if_neg c] at hf
    exact cr_224_17 hd hR hf k
def cf_224_4 (N : Nat) (X : Nat → Option zz_C) (x1 : Int64) (x3 : Int64) (x5 : Int64) (y0 : Int32) (t : cS) : kO := if y0 = 3 then cf_224_29 N X x1 x3 x5 y0 t else cf_224_12 N X x1 x3 x5 y0 t
theorem cr_224_4 {X : Nat → Option zz_C} {s : mS} {N : Nat} {d : Nat} (hd : 11 ≤ d) {Q : zz_O → zz_H → Prop} {x1 : Int64} {x3 : Int64} {x5 : Int64} {y0 : Int32} {h : zz_H} {t t' : cS} {o : kY} (hR : kR h t s) (hf : cf_224_4 N X x1 x3 x5 y0 t = some (t', o)) (k : (∀ h', kR h' t' s → kE o Q h')) : zz_J zp_P zt_tf zt_fd X d zm_224 4 [(0, .ref 58), (1, .long x1), (3, .long x3), (5, .long x5)] [.int y0] h Q := by
  unfold cf_224_4 at hf
  refine cb_224_4 hR  (fun c {h} hR => ?_) (fun c {h} hR => ?_)
  · rw [if_pos c] at hf
    exact cr_224_29 hd hR hf k
  · rw [if_neg c] at hf
    exact cr_224_12 hd hR hf k
def cf_224_0 (N : Nat) (X : Nat → Option zz_C) (x1 : Int64) (x3 : Int64) (x5 : Int64) (t : cS) : kO := ko_call 1000 (cf_255 N X x1 t) (fun g1 v1 => co_i v1 (fun y => cf_224_4 N X x1 x3 x5 y g1))
theorem cr_224_0 {X : Nat → Option zz_C} {s : mS} {N : Nat} {d : Nat} (hd : 11 ≤ d) {Q : zz_O → zz_H → Prop} {x1 : Int64} {x3 : Int64} {x5 : Int64} {h : zz_H} {t t' : cS} {o : kY} (hR : kR h t s) (hf : cf_224_0 N X x1 x3 x5 t = some (t', o)) (k : (∀ h', kR h' t' s → kE o Q h')) : zz_J zp_P zt_tf zt_fd X d zm_224 0 [(0, .ref 58), (1, .long x1), (3, .long x3), (5, .long x5)] [] h Q := by
  unfold cf_224_0 at hf
  obtain ⟨d', rfl⟩ : ∃ d', d = d' + 1 := ⟨d - 1, by omega⟩
  refine cb_224_0 hR  (fun {h} hR => ?_)
  rcases ko_call_ok hf with ⟨g1, v1, er, hf⟩ | ⟨g1, er, hq⟩
  · obtain ⟨y, hv, hf2⟩ := co_i_ok hf
    clear hf
    have hf := hf2
    clear hf2
    subst hv
    refine cr_255 (by omega) hR er (fun h hR => ?_)
    exact cr_224_4 hd hR hf k
  · refine cr_255 (by omega) hR er (fun h hR => ?_)
    exact ko_thrown hq hR k
/-- putPart -/
def cf_224 (N : Nat) (X : Nat → Option zz_C) (x1 : Int64) (x3 : Int64) (x5 : Int64) (t : cS) : kO := cf_224_0 N X x1 x3 x5 t
theorem cr_224 {X : Nat → Option zz_C} {s : mS} {N : Nat} {d : Nat} (hd : 11 ≤ d) {Q : zz_O → zz_H → Prop} {x1 : Int64} {x3 : Int64} {x5 : Int64} {h : zz_H} {t t' : cS} {o : kY} (hR : kR h t s) (hf : cf_224 N X x1 x3 x5 t = some (t', o)) (k : ∀ h', kR h' t' s → kE o Q h') : zz_J zp_P zt_tf zt_fd X d zm_224 0 [(0, .ref 58), (1, .long x1), (3, .long x3), (5, .long x5)] [] h Q := by
  unfold cf_224 at hf
  exact zz_J.weak (cr_224_0 hd hR hf k) rfl ⟨rfl, rfl, rfl, rfl, trivial⟩
/-! yX8_cellTrouble (JJJJ)I -/
theorem cb_225_0 {X : Nat → Option zz_C} {h : zz_H} {t : cS} {s : mS} {d : Nat} {Q : zz_O → zz_H → Prop} {x1 : Int64} {x3 : Int64} {x5 : Int64} {x7 : Int64} (hR : kR h t s) (k : ∀ {h : zz_H}, kR h t s → zz_J zp_P zt_tf zt_fd X d zm_255 0 [(0, .long x1)] [] h (zz_after 1000 Q (fun v h' => zz_J zp_P zt_tf zt_fd X (d + 1) zm_225 4 [(0, .ref 58), (1, .long x1), (3, .long x3), (5, .long x5), (7, .long x7)] (v.toList ++ []) h' Q))) : zz_J zp_P zt_tf zt_fd X (d + 1) zm_225 0 [(0, .ref 58), (1, .long x1), (3, .long x3), (5, .long x5), (7, .long x7)] [] h Q := by
  refine zz_J.n 1 rfl rfl rfl ?_
  refine zz_J.cl (M' := zm_255) 4 rfl rfl (by decide) rfl rfl ⟨rfl, Nat.le_of_ble_eq_true rfl⟩ rfl ?_
  refine zz_J.mono (k hR) ?_
  intro o h' hE
  cases o with
  | inl v => exact zz_J.weak hE rfl ⟨rfl, rfl, rfl, rfl, rfl, trivial⟩
  | inr q => exact hE
theorem cb_225_4 {X : Nat → Option zz_C} {h : zz_H} {t : cS} {s : mS} {d : Nat} {Q : zz_O → zz_H → Prop} {x1 : Int64} {x3 : Int64} {x5 : Int64} {x7 : Int64} {y0 : Int32} (hR : kR h t s) (k1 : ¬ y0 = 2 → (∀ {h : zz_H}, kR h t s → zz_J zp_P zt_tf zt_fd X d zm_225 31 [] [] h Q)) (k2 : ¬ ¬ y0 = 2 → (∀ {h : zz_H}, kR h t s → zz_J zp_P zt_tf zt_fd X d zm_225 8 [(0, .ref 58), (1, .long x1), (3, .long x3), (5, .long x5), (7, .long x7)] [] h Q)) : zz_J zp_P zt_tf zt_fd X d zm_225 4 [(0, .ref 58), (1, .long x1), (3, .long x3), (5, .long x5), (7, .long x7)] [.int y0] h Q := by
  refine zz_J.c 5 (.int 2) rfl rfl rfl rfl ?_
  refine zz_J.b2 31 8 (A := ¬ y0 = 2) rfl (zz_cond_ne _ _) (by decide) rfl rfl (fun c => ?_) (fun c => ?_)
  · exact zz_J.weak (k1 c hR) rfl trivial
  · exact zz_J.weak (k2 c hR) rfl ⟨rfl, rfl, rfl, rfl, rfl, trivial⟩
theorem cb_225_8 {X : Nat → Option zz_C} {h : zz_H} {t : cS} {s : mS} {d : Nat} {Q : zz_O → zz_H → Prop} {x1 : Int64} {x3 : Int64} {x5 : Int64} {x7 : Int64} (hR : kR h t s) (k : ∀ {h : zz_H}, kR h t s → zz_J zp_P zt_tf zt_fd X d zm_255 0 [(0, .long x3)] [] h (zz_after 1000 Q (fun v h' => zz_J zp_P zt_tf zt_fd X (d + 1) zm_225 12 [(0, .ref 58), (1, .long x1), (3, .long x3), (5, .long x5), (7, .long x7)] (v.toList ++ []) h' Q))) : zz_J zp_P zt_tf zt_fd X (d + 1) zm_225 8 [(0, .ref 58), (1, .long x1), (3, .long x3), (5, .long x5), (7, .long x7)] [] h Q := by
  refine zz_J.n 9 rfl rfl rfl ?_
  refine zz_J.cl (M' := zm_255) 12 rfl rfl (by decide) rfl rfl ⟨rfl, Nat.le_of_ble_eq_true rfl⟩ rfl ?_
  refine zz_J.mono (k hR) ?_
  intro o h' hE
  cases o with
  | inl v => exact zz_J.weak hE rfl ⟨rfl, rfl, rfl, rfl, rfl, trivial⟩
  | inr q => exact hE
theorem cb_225_12 {X : Nat → Option zz_C} {h : zz_H} {t : cS} {s : mS} {d : Nat} {Q : zz_O → zz_H → Prop} {x1 : Int64} {x3 : Int64} {x5 : Int64} {x7 : Int64} {y0 : Int32} (hR : kR h t s) (k1 : ¬ y0 = 0 → (∀ {h : zz_H}, kR h t s → zz_J zp_P zt_tf zt_fd X d zm_225 31 [] [] h Q)) (k2 : ¬ ¬ y0 = 0 → (∀ {h : zz_H}, kR h t s → zz_J zp_P zt_tf zt_fd X d zm_225 15 [(0, .ref 58), (1, .long x1), (3, .long x3), (5, .long x5), (7, .long x7)] [] h Q)) : zz_J zp_P zt_tf zt_fd X d zm_225 12 [(0, .ref 58), (1, .long x1), (3, .long x3), (5, .long x5), (7, .long x7)] [.int y0] h Q := by
  refine zz_J.b1 31 15 (A := ¬ y0 = 0) rfl (zz_cond_ne _ _) (by decide) rfl rfl (fun c => ?_) (fun c => ?_)
  · exact zz_J.weak (k1 c hR) rfl trivial
  · exact zz_J.weak (k2 c hR) rfl ⟨rfl, rfl, rfl, rfl, rfl, trivial⟩
theorem cb_225_15 {X : Nat → Option zz_C} {h : zz_H} {t : cS} {s : mS} {d : Nat} {Q : zz_O → zz_H → Prop} {x1 : Int64} {x3 : Int64} {x5 : Int64} {x7 : Int64} (hR : kR h t s) (k : ∀ {h : zz_H}, kR h t s → zz_J zp_P zt_tf zt_fd X d zm_255 0 [(0, .long x5)] [] h (zz_after 1000 Q (fun v h' => zz_J zp_P zt_tf zt_fd X (d + 1) zm_225 20 [(0, .ref 58), (1, .long x1), (3, .long x3), (7, .long x7)] (v.toList ++ []) h' Q))) : zz_J zp_P zt_tf zt_fd X (d + 1) zm_225 15 [(0, .ref 58), (1, .long x1), (3, .long x3), (5, .long x5), (7, .long x7)] [] h Q := by
  refine zz_J.n 17 rfl rfl rfl ?_
  refine zz_J.cl (M' := zm_255) 20 rfl rfl (by decide) rfl rfl ⟨rfl, Nat.le_of_ble_eq_true rfl⟩ rfl ?_
  refine zz_J.mono (k hR) ?_
  intro o h' hE
  cases o with
  | inl v => exact zz_J.weak hE rfl ⟨rfl, rfl, rfl, rfl, trivial⟩
  | inr q => exact hE
theorem cb_225_20 {X : Nat → Option zz_C} {h : zz_H} {t : cS} {s : mS} {d : Nat} {Q : zz_O → zz_H → Prop} {x1 : Int64} {x3 : Int64} {x7 : Int64} {y0 : Int32} (hR : kR h t s) (k1 : ¬ y0 = 0 → (∀ {h : zz_H}, kR h t s → zz_J zp_P zt_tf zt_fd X d zm_225 31 [] [] h Q)) (k2 : ¬ ¬ y0 = 0 → (∀ {h : zz_H}, kR h t s → zz_J zp_P zt_tf zt_fd X d zm_225 23 [(0, .ref 58), (1, .long x1), (3, .long x3), (7, .long x7)] [] h Q)) : zz_J zp_P zt_tf zt_fd X d zm_225 20 [(0, .ref 58), (1, .long x1), (3, .long x3), (7, .long x7)] [.int y0] h Q := by
  refine zz_J.b1 31 23 (A := ¬ y0 = 0) rfl (zz_cond_ne _ _) (by decide) rfl rfl (fun c => ?_) (fun c => ?_)
  · exact zz_J.weak (k1 c hR) rfl trivial
  · exact zz_J.weak (k2 c hR) rfl ⟨rfl, rfl, rfl, rfl, trivial⟩
theorem cb_225_23 {X : Nat → Option zz_C} {h : zz_H} {t : cS} {s : mS} {d : Nat} {Q : zz_O → zz_H → Prop} {x1 : Int64} {x3 : Int64} {x7 : Int64} (hR : kR h t s) (k : ∀ {h : zz_H}, kR h t s → zz_J zp_P zt_tf zt_fd X d zm_255 0 [(0, .long x7)] [] h (zz_after 1000 Q (fun v h' => zz_J zp_P zt_tf zt_fd X (d + 1) zm_225 28 [(0, .ref 58), (1, .long x1), (3, .long x3)] (v.toList ++ []) h' Q))) : zz_J zp_P zt_tf zt_fd X (d + 1) zm_225 23 [(0, .ref 58), (1, .long x1), (3, .long x3), (7, .long x7)] [] h Q := by
  refine zz_J.n 25 rfl rfl rfl ?_
  refine zz_J.cl (M' := zm_255) 28 rfl rfl (by decide) rfl rfl ⟨rfl, Nat.le_of_ble_eq_true rfl⟩ rfl ?_
  refine zz_J.mono (k hR) ?_
  intro o h' hE
  cases o with
  | inl v => exact zz_J.weak hE rfl ⟨rfl, rfl, rfl, trivial⟩
  | inr q => exact hE
theorem cb_225_28 {X : Nat → Option zz_C} {h : zz_H} {t : cS} {s : mS} {d : Nat} {Q : zz_O → zz_H → Prop} {x1 : Int64} {x3 : Int64} {y0 : Int32} (hR : kR h t s) (k1 : y0 = 0 → (∀ {h : zz_H}, kR h t s → zz_J zp_P zt_tf zt_fd X d zm_225 33 [(0, .ref 58), (1, .long x1), (3, .long x3)] [] h Q)) (k2 : ¬ y0 = 0 → (∀ {h : zz_H}, kR h t s → zz_J zp_P zt_tf zt_fd X d zm_225 31 [] [] h Q)) : zz_J zp_P zt_tf zt_fd X d zm_225 28 [(0, .ref 58), (1, .long x1), (3, .long x3)] [.int y0] h Q := by
  refine zz_J.b1 33 31 (A := y0 = 0) rfl rfl (by decide) rfl rfl (fun c => ?_) (fun c => ?_)
  · exact zz_J.weak (k1 c hR) rfl ⟨rfl, rfl, rfl, trivial⟩
  · exact zz_J.weak (k2 c hR) rfl trivial
theorem cb_225_31 {X : Nat → Option zz_C} {h : zz_H} {t : cS} {s : mS} {d : Nat} {Q : zz_O → zz_H → Prop}  (hR : kR h t s) (k : ∀ {h : zz_H}, kR h t s → Q (.inl (some (.int 3))) h) : zz_J zp_P zt_tf zt_fd X d zm_225 31 [] [] h Q := by
  refine zz_J.c 32 (.int 3) rfl rfl rfl rfl ?_
  refine zz_J.ret rfl rfl rfl ?_
  exact k hR
theorem cb_225_33 {X : Nat → Option zz_C} {h : zz_H} {t : cS} {s : mS} {d : Nat} {Q : zz_O → zz_H → Prop} {x1 : Int64} {x3 : Int64} (hR : kR h t s) (k : ∀ {h : zz_H}, kR h t s → zz_J zp_P zt_tf zt_fd X d zm_256 0 [(0, .long x3)] [] h (zz_after 1000 Q (fun v h' => zz_J zp_P zt_tf zt_fd X (d + 1) zm_225 37 [(0, .ref 58), (1, .long x1), (3, .long x3)] (v.toList ++ []) h' Q))) : zz_J zp_P zt_tf zt_fd X (d + 1) zm_225 33 [(0, .ref 58), (1, .long x1), (3, .long x3)] [] h Q := by
  refine zz_J.n 34 rfl rfl rfl ?_
  refine zz_J.cl (M' := zm_256) 37 rfl rfl (by decide) rfl rfl ⟨rfl, Nat.le_of_ble_eq_true rfl⟩ rfl ?_
  refine zz_J.mono (k hR) ?_
  intro o h' hE
  cases o with
  | inl v => exact zz_J.weak hE rfl ⟨rfl, rfl, rfl, trivial⟩
  | inr q => exact hE
theorem cb_225_37 {X : Nat → Option zz_C} {h : zz_H} {t : cS} {s : mS} {d : Nat} {Q : zz_O → zz_H → Prop} {x1 : Int64} {x3 : Int64} {y0 : Int32} (hR : kR h t s) (k1 : y0 < 0 → (∀ {h : zz_H}, kR h t s → zz_J zp_P zt_tf zt_fd X d zm_225 55 [] [] h Q)) (k2 : ¬ y0 < 0 → (∀ {h : zz_H}, kR h t s → zz_J zp_P zt_tf zt_fd X d zm_225 40 [(0, .ref 58), (1, .long x1), (3, .long x3)] [] h Q)) : zz_J zp_P zt_tf zt_fd X d zm_225 37 [(0, .ref 58), (1, .long x1), (3, .long x3)] [.int y0] h Q := by
  refine zz_J.b1 55 40 (A := y0 < 0) rfl rfl (by decide) rfl rfl (fun c => ?_) (fun c => ?_)
  · exact zz_J.weak (k1 c hR) rfl trivial
  · exact zz_J.weak (k2 c hR) rfl ⟨rfl, rfl, rfl, trivial⟩
theorem cb_225_40 {X : Nat → Option zz_C} {h : zz_H} {t : cS} {s : mS} {d : Nat} {Q : zz_O → zz_H → Prop} {x1 : Int64} {x3 : Int64} (hR : kR h t s) (k : ∀ {h : zz_H}, kR h t s → zz_J zp_P zt_tf zt_fd X d zm_256 0 [(0, .long x3)] [] h (zz_after 1000 Q (fun v h' => zz_J zp_P zt_tf zt_fd X (d + 1) zm_225 44 [(0, .ref 58), (1, .long x1)] (v.toList ++ []) h' Q))) : zz_J zp_P zt_tf zt_fd X (d + 1) zm_225 40 [(0, .ref 58), (1, .long x1), (3, .long x3)] [] h Q := by
  refine zz_J.n 41 rfl rfl rfl ?_
  refine zz_J.cl (M' := zm_256) 44 rfl rfl (by decide) rfl rfl ⟨rfl, Nat.le_of_ble_eq_true rfl⟩ rfl ?_
  refine zz_J.mono (k hR) ?_
  intro o h' hE
  cases o with
  | inl v => exact zz_J.weak hE rfl ⟨rfl, rfl, trivial⟩
  | inr q => exact hE
theorem cb_225_44 {X : Nat → Option zz_C} {h : zz_H} {t : cS} {s : mS} {d : Nat} {Q : zz_O → zz_H → Prop} {x1 : Int64} {y0 : Int32} (hR : kR h t s) (k : ∀ {h : zz_H}, kR h t s → zz_J zp_P zt_tf zt_fd X d zm_128 0 [(0, .ref 42), (1, .long x1)] [] h (zz_after 2 Q (fun v h' => zz_J zp_P zt_tf zt_fd X (d + 1) zm_225 52 [] (v.toList ++ [.int y0]) h' Q))) : zz_J zp_P zt_tf zt_fd X (d + 1) zm_225 44 [(0, .ref 58), (1, .long x1)] [.int y0] h Q := by
  refine zz_J.n 45 rfl rfl rfl ?_
  refine zz_J.g 48 rfl (hR.gv (v := .ref 42) ko_58 (by decide) rfl) rfl ?_
  refine zz_J.n 49 rfl rfl rfl ?_
  refine zz_J.cv 52 (as := [.int y0]) rfl rfl (hR.clO ko_42 (by decide) (by decide)) (by decide) (Nat.le_of_ble_eq_true rfl) (Nat.le_of_ble_eq_true rfl) rfl (Nat.le_of_ble_eq_true rfl) rfl ?_
  refine zz_J.mono (k hR) ?_
  intro o h' hE
  cases o with
  | inl v => exact zz_J.weak hE rfl trivial
  | inr q => exact hE
theorem cb_225_52 {X : Nat → Option zz_C} {h : zz_H} {t : cS} {s : mS} {d : Nat} {Q : zz_O → zz_H → Prop} {y0 : Int32} {y1 : Int32} (hR : kR h t s) (k1 : y0 < y1 → (∀ {h : zz_H}, kR h t s → zz_J zp_P zt_tf zt_fd X d zm_225 59 [] [] h Q)) (k2 : ¬ y0 < y1 → (∀ {h : zz_H}, kR h t s → zz_J zp_P zt_tf zt_fd X d zm_225 55 [] [] h Q)) : zz_J zp_P zt_tf zt_fd X d zm_225 52 [] [.int y1, .int y0] h Q := by
  refine zz_J.b2 59 55 (A := y0 < y1) rfl rfl (by decide) rfl rfl (fun c => ?_) (fun c => ?_)
  · exact zz_J.weak (k1 c hR) rfl trivial
  · exact zz_J.weak (k2 c hR) rfl trivial
theorem cb_225_55 {X : Nat → Option zz_C} {h : zz_H} {t : cS} {s : mS} {d : Nat} {Q : zz_O → zz_H → Prop}  (hR : kR h t s) (k : ∀ {h : zz_H}, kR h t s → zz_J zp_P zt_tf zt_fd X d zm_225 60 [] [.int 5] h Q) : zz_J zp_P zt_tf zt_fd X d zm_225 55 [] [] h Q := by
  refine zz_J.c 56 (.int 5) rfl rfl rfl rfl ?_
  refine zz_J.n 60 rfl rfl rfl ?_
  exact zz_J.weak (k hR) rfl trivial
theorem cb_225_59 {X : Nat → Option zz_C} {h : zz_H} {t : cS} {s : mS} {d : Nat} {Q : zz_O → zz_H → Prop}  (hR : kR h t s) (k : ∀ {h : zz_H}, kR h t s → zz_J zp_P zt_tf zt_fd X d zm_225 60 [] [.int 0] h Q) : zz_J zp_P zt_tf zt_fd X d zm_225 59 [] [] h Q := by
  refine zz_J.c 60 (.int 0) rfl rfl rfl rfl ?_
  exact zz_J.weak (k hR) rfl trivial
theorem cb_225_60 {X : Nat → Option zz_C} {h : zz_H} {t : cS} {s : mS} {d : Nat} {Q : zz_O → zz_H → Prop} {y0 : Int32} (hR : kR h t s) (k : ∀ {h : zz_H}, kR h t s → Q (.inl (some (.int y0))) h) : zz_J zp_P zt_tf zt_fd X d zm_225 60 [] [.int y0] h Q := by
  refine zz_J.ret rfl rfl rfl ?_
  exact k hR
def cf_225_31 (N : Nat) (X : Nat → Option zz_C)  (t : cS) : kO := some (t, .inl (some (.int 3)))
theorem cr_225_31 {X : Nat → Option zz_C} {s : mS} {N : Nat} {d : Nat} (hd : 1 ≤ d) {Q : zz_O → zz_H → Prop}  {h : zz_H} {t t' : cS} {o : kY} (hR : kR h t s) (hf : cf_225_31 N X  t = some (t', o)) (k : (∀ h', kR h' t' s → kE o Q h')) : zz_J zp_P zt_tf zt_fd X d zm_225 31 [] [] h Q := by
  unfold cf_225_31 at hf
  cases hf
  exact cb_225_31 hR  (fun {h} hR => k h hR)
def cf_225_60 (N : Nat) (X : Nat → Option zz_C) (y0 : Int32) (t : cS) : kO := some (t, .inl (some (.int y0)))
theorem cr_225_60 {X : Nat → Option zz_C} {s : mS} {N : Nat} {d : Nat} (hd : 1 ≤ d) {Q : zz_O → zz_H → Prop} {y0 : Int32} {h : zz_H} {t t' : cS} {o : kY} (hR : kR h t s) (hf : cf_225_60 N X y0 t = some (t', o)) (k : (∀ h', kR h' t' s → kE o Q h')) : zz_J zp_P zt_tf zt_fd X d zm_225 60 [] [.int y0] h Q := by
  unfold cf_225_60 at hf
  cases hf
  exact cb_225_60 hR  (fun {h} hR => k h hR)
def cf_225_55 (N : Nat) (X : Nat → Option zz_C)  (t : cS) : kO := cf_225_60 N X 5 t
theorem cr_225_55 {X : Nat → Option zz_C} {s : mS} {N : Nat} {d : Nat} (hd : 1 ≤ d) {Q : zz_O → zz_H → Prop}  {h : zz_H} {t t' : cS} {o : kY} (hR : kR h t s) (hf : cf_225_55 N X  t = some (t', o)) (k : (∀ h', kR h' t' s → kE o Q h')) : zz_J zp_P zt_tf zt_fd X d zm_225 55 [] [] h Q := by
  unfold cf_225_55 at hf
  exact cb_225_55 hR  (fun hR => cr_225_60 hd hR hf k)
def cf_225_59 (N : Nat) (X : Nat → Option zz_C)  (t : cS) : kO := cf_225_60 N X 0 t
theorem cr_225_59 {X : Nat → Option zz_C} {s : mS} {N : Nat} {d : Nat} (hd : 1 ≤ d) {Q : zz_O → zz_H → Prop}  {h : zz_H} {t t' : cS} {o : kY} (hR : kR h t s) (hf : cf_225_59 N X  t = some (t', o)) (k : (∀ h', kR h' t' s → kE o Q h')) : zz_J zp_P zt_tf zt_fd X d zm_225 59 [] [] h Q := by
  unfold cf_225_59 at hf
  exact cb_225_59 hR  (fun hR => cr_225_60 hd hR hf k)
def cf_225_52 (N : Nat) (X : Nat → Option zz_C) (y0 : Int32) (y1 : Int32) (t : cS) : kO := if y0 < y1 then cf_225_59 N X  t else cf_225_55 N X  t
theorem cr_225_52 {X : Nat → Option zz_C} {s : mS} {N : Nat} {d : Nat} (hd : 1 ≤ d) {Q : zz_O → zz_H → Prop} {y0 : Int32} {y1 : Int32} {h : zz_H} {t t' : cS} {o : kY} (hR : kR h t s) (hf : cf_225_52 N X y0 y1 t = some (t', o)) (k : (∀ h', kR h' t' s → kE o Q h')) : zz_J zp_P zt_tf zt_fd X d zm_225 52 [] [.int y1, .int y0] h Q := by
  unfold cf_225_52 at hf
  refine cb_225_52 hR  (fun c {h} hR => ?_) (fun c {h} hR => ?_)
  · rw [if_pos c] at hf
    exact cr_225_59 hd hR hf k
  · rw [if_neg c] at hf
    exact cr_225_55 hd hR hf k
def cf_225_44 (N : Nat) (X : Nat → Option zz_C) (x1 : Int64) (y0 : Int32) (t : cS) : kO := ko_call 2 (cf_128 N X x1 t) (fun g1 v1 => co_i v1 (fun y => cf_225_52 N X y0 y g1))
theorem cr_225_44 {X : Nat → Option zz_C} {s : mS} {N : Nat} {d : Nat} (hd : 1 ≤ d) {Q : zz_O → zz_H → Prop} {x1 : Int64} {y0 : Int32} {h : zz_H} {t t' : cS} {o : kY} (hR : kR h t s) (hf : cf_225_44 N X x1 y0 t = some (t', o)) (k : (∀ h', kR h' t' s → kE o Q h')) : zz_J zp_P zt_tf zt_fd X d zm_225 44 [(0, .ref 58), (1, .long x1)] [.int y0] h Q := by
  unfold cf_225_44 at hf
  obtain ⟨d', rfl⟩ : ∃ d', d = d' + 1 := ⟨d - 1, by omega⟩
  refine cb_225_44 hR  (fun {h} hR => ?_)
  rcases ko_call_ok hf with ⟨g1, v1, er, hf⟩ | ⟨g1, er, hq⟩
  · obtain ⟨y, hv, hf2⟩ := co_i_ok hf
    clear hf
    have hf := hf2
    clear hf2
    subst hv
    refine cr_128 (by omega) hR er (fun h hR => ?_)
    exact cr_225_52 hd hR hf k
  · refine cr_128 (by omega) hR er (fun h hR => ?_)
    exact ko_thrown hq hR k
def cf_225_40 (N : Nat) (X : Nat → Option zz_C) (x1 : Int64) (x3 : Int64) (t : cS) : kO := ko_call 1000 (cf_256 N X x3 t) (fun g1 v1 => co_i v1 (fun y => cf_225_44 N X x1 y g1))
theorem cr_225_40 {X : Nat → Option zz_C} {s : mS} {N : Nat} {d : Nat} (hd : 1 ≤ d) {Q : zz_O → zz_H → Prop} {x1 : Int64} {x3 : Int64} {h : zz_H} {t t' : cS} {o : kY} (hR : kR h t s) (hf : cf_225_40 N X x1 x3 t = some (t', o)) (k : (∀ h', kR h' t' s → kE o Q h')) : zz_J zp_P zt_tf zt_fd X d zm_225 40 [(0, .ref 58), (1, .long x1), (3, .long x3)] [] h Q := by
  unfold cf_225_40 at hf
  obtain ⟨d', rfl⟩ : ∃ d', d = d' + 1 := ⟨d - 1, by omega⟩
  refine cb_225_40 hR  (fun {h} hR => ?_)
  rcases ko_call_ok hf with ⟨g1, v1, er, hf⟩ | ⟨g1, er, hq⟩
  · obtain ⟨y, hv, hf2⟩ := co_i_ok hf
    clear hf
    have hf := hf2
    clear hf2
    subst hv
    refine cr_256 (by omega) hR er (fun h hR => ?_)
    exact cr_225_44 hd hR hf k
  · refine cr_256 (by omega) hR er (fun h hR => ?_)
    exact ko_thrown hq hR k
def cf_225_37 (N : Nat) (X : Nat → Option zz_C) (x1 : Int64) (x3 : Int64) (y0 : Int32) (t : cS) : kO := if y0 < 0 then cf_225_55 N X  t else cf_225_40 N X x1 x3 t
theorem cr_225_37 {X : Nat → Option zz_C} {s : mS} {N : Nat} {d : Nat} (hd : 1 ≤ d) {Q : zz_O → zz_H → Prop} {x1 : Int64} {x3 : Int64} {y0 : Int32} {h : zz_H} {t t' : cS} {o : kY} (hR : kR h t s) (hf : cf_225_37 N X x1 x3 y0 t = some (t', o)) (k : (∀ h', kR h' t' s → kE o Q h')) : zz_J zp_P zt_tf zt_fd X d zm_225 37 [(0, .ref 58), (1, .long x1), (3, .long x3)] [.int y0] h Q := by
  unfold cf_225_37 at hf
  refine cb_225_37 hR  (fun c {h} hR => ?_) (fun c {h} hR => ?_)
  · rw [if_pos c] at hf
    exact cr_225_55 hd hR hf k
  · rw [if_neg c] at hf
    exact cr_225_40 hd hR hf k
def cf_225_33 (N : Nat) (X : Nat → Option zz_C) (x1 : Int64) (x3 : Int64) (t : cS) : kO := ko_call 1000 (cf_256 N X x3 t) (fun g1 v1 => co_i v1 (fun y => cf_225_37 N X x1 x3 y g1))
theorem cr_225_33 {X : Nat → Option zz_C} {s : mS} {N : Nat} {d : Nat} (hd : 1 ≤ d) {Q : zz_O → zz_H → Prop} {x1 : Int64} {x3 : Int64} {h : zz_H} {t t' : cS} {o : kY} (hR : kR h t s) (hf : cf_225_33 N X x1 x3 t = some (t', o)) (k : (∀ h', kR h' t' s → kE o Q h')) : zz_J zp_P zt_tf zt_fd X d zm_225 33 [(0, .ref 58), (1, .long x1), (3, .long x3)] [] h Q := by
  unfold cf_225_33 at hf
  obtain ⟨d', rfl⟩ : ∃ d', d = d' + 1 := ⟨d - 1, by omega⟩
  refine cb_225_33 hR  (fun {h} hR => ?_)
  rcases ko_call_ok hf with ⟨g1, v1, er, hf⟩ | ⟨g1, er, hq⟩
  · obtain ⟨y, hv, hf2⟩ := co_i_ok hf
    clear hf
    have hf := hf2
    clear hf2
    subst hv
    refine cr_256 (by omega) hR er (fun h hR => ?_)
    exact cr_225_37 hd hR hf k
  · refine cr_256 (by omega) hR er (fun h hR => ?_)
    exact ko_thrown hq hR k
def cf_225_28 (N : Nat) (X : Nat → Option zz_C) (x1 : Int64) (x3 : Int64) (y0 : Int32) (t : cS) : kO := if y0 = 0 then cf_225_33 N X x1 x3 t else cf_225_31 N X  t
theorem cr_225_28 {X : Nat → Option zz_C} {s : mS} {N : Nat} {d : Nat} (hd : 1 ≤ d) {Q : zz_O → zz_H → Prop} {x1 : Int64} {x3 : Int64} {y0 : Int32} {h : zz_H} {t t' : cS} {o : kY} (hR : kR h t s) (hf : cf_225_28 N X x1 x3 y0 t = some (t', o)) (k : (∀ h', kR h' t' s → kE o Q h')) : zz_J zp_P zt_tf zt_fd X d zm_225 28 [(0, .ref 58), (1, .long x1), (3, .long x3)] [.int y0] h Q := by
  unfold cf_225_28 at hf
  refine cb_225_28 hR  (fun c {h} hR => ?_) (fun c {h} hR => ?_)
  · rw [if_pos c] at hf
    exact cr_225_33 hd hR hf k
  · rw [if_neg c] at hf
    exact cr_225_31 hd hR hf k
def cf_225_23 (N : Nat) (X : Nat → Option zz_C) (x1 : Int64) (x3 : Int64) (x7 : Int64) (t : cS) : kO := ko_call 1000 (cf_255 N X x7 t) (fun g1 v1 => co_i v1 (fun y => cf_225_28 N X x1 x3 y g1))
theorem cr_225_23 {X : Nat → Option zz_C} {s : mS} {N : Nat} {d : Nat} (hd : 1 ≤ d) {Q : zz_O → zz_H → Prop} {x1 : Int64} {x3 : Int64} {x7 : Int64} {h : zz_H} {t t' : cS} {o : kY} (hR : kR h t s) (hf : cf_225_23 N X x1 x3 x7 t = some (t', o)) (k : (∀ h', kR h' t' s → kE o Q h')) : zz_J zp_P zt_tf zt_fd X d zm_225 23 [(0, .ref 58), (1, .long x1), (3, .long x3), (7, .long x7)] [] h Q := by
  unfold cf_225_23 at hf
  obtain ⟨d', rfl⟩ : ∃ d', d = d' + 1 := ⟨d - 1, by omega⟩
  refine cb_225_23 hR  (fun {h} hR => ?_)
  rcases ko_call_ok hf with ⟨g1, v1, er, hf⟩ | ⟨g1, er, hq⟩
  · obtain ⟨y, hv, hf2⟩ := co_i_ok hf
    clear hf
    have hf := hf2
    clear hf2
    subst hv
    refine cr_255 (by omega) hR er (fun h hR => ?_)
    exact cr_225_28 hd hR hf k
  · refine cr_255 (by omega) hR er (fun h hR => ?_)
    exact ko_thrown hq hR k
def cf_225_20 (N : Nat) (X : Nat → Option zz_C) (x1 : Int64) (x3 : Int64) (x7 : Int64) (y0 : Int32) (t : cS) : kO := if ¬ y0 = 0 then cf_225_31 N X  t else cf_225_23 N X x1 x3 x7 t
theorem cr_225_20 {X : Nat → Option zz_C} {s : mS} {N : Nat} {d : Nat} (hd : 1 ≤ d) {Q : zz_O → zz_H → Prop} {x1 : Int64} {x3 : Int64} {x7 : Int64} {y0 : Int32} {h : zz_H} {t t' : cS} {o : kY} (hR : kR h t s) (hf : cf_225_20 N X x1 x3 x7 y0 t = some (t', o)) (k : (∀ h', kR h' t' s → kE o Q h')) : zz_J zp_P zt_tf zt_fd X d zm_225 20 [(0, .ref 58), (1, .long x1), (3, .long x3), (7, .long x7)] [.int y0] h Q := by
  unfold cf_225_20 at hf
  refine cb_225_20 hR  (fun c {h} hR => ?_) (fun c {h} hR => ?_)
  · rw [if_pos c] at hf
    exact cr_225_31 hd hR hf k
  · rw [if_neg c] at hf
    exact cr_225_23 hd hR hf k
def cf_225_15 (N : Nat) (X : Nat → Option zz_C) (x1 : Int64) (x3 : Int64) (x5 : Int64) (x7 : Int64) (t : cS) : kO := ko_call 1000 (cf_255 N X x5 t) (fun g1 v1 => co_i v1 (fun y => cf_225_20 N X x1 x3 x7 y g1))
theorem cr_225_15 {X : Nat → Option zz_C} {s : mS} {N : Nat} {d : Nat} (hd : 1 ≤ d) {Q : zz_O → zz_H → Prop} {x1 : Int64} {x3 : Int64} {x5 : Int64} {x7 : Int64} {h : zz_H} {t t' : cS} {o : kY} (hR : kR h t s) (hf : cf_225_15 N X x1 x3 x5 x7 t = some (t', o)) (k : (∀ h', kR h' t' s → kE o Q h')) : zz_J zp_P zt_tf zt_fd X d zm_225 15 [(0, .ref 58), (1, .long x1), (3, .long x3), (5, .long x5), (7, .long x7)] [] h Q := by
  unfold cf_225_15 at hf
  obtain ⟨d', rfl⟩ : ∃ d', d = d' + 1 := ⟨d - 1, by omega⟩
  refine cb_225_15 hR  (fun {h} hR => ?_)
  rcases ko_call_ok hf with ⟨g1, v1, er, hf⟩ | ⟨g1, er, hq⟩
  · obtain ⟨y, hv, hf2⟩ := co_i_ok hf
    clear hf
    have hf := hf2
    clear hf2
    subst hv
    refine cr_255 (by omega) hR er (fun h hR => ?_)
    exact cr_225_20 hd hR hf k
  · refine cr_255 (by omega) hR er (fun h hR => ?_)
    exact ko_thrown hq hR k
def cf_225_12 (N : Nat) (X : Nat → Option zz_C) (x1 : Int64) (x3 : Int64) (x5 : Int64) (x7 : Int64) (y0 : Int32) (t : cS) : kO := if ¬ y0 = 0 then cf_225_31 N X  t else cf_225_15 N X x1 x3 x5 x7 t
theorem cr_225_12 {X : Nat → Option zz_C} {s : mS} {N : Nat} {d : Nat} (hd : 1 ≤ d) {Q : zz_O → zz_H → Prop} {x1 : Int64} {x3 : Int64} {x5 : Int64} {x7 : Int64} {y0 : Int32} {h : zz_H} {t t' : cS} {o : kY} (hR : kR h t s) (hf : cf_225_12 N X x1 x3 x5 x7 y0 t = some (t', o)) (k : (∀ h', kR h' t' s → kE o Q h')) : zz_J zp_P zt_tf zt_fd X d zm_225 12 [(0, .ref 58), (1, .long x1), (3, .long x3), (5, .long x5), (7, .long x7)] [.int y0] h Q := by
  unfold cf_225_12 at hf
  refine cb_225_12 hR  (fun c {h} hR => ?_) (fun c {h} hR => ?_)
  · rw [if_pos c] at hf
    exact cr_225_31 hd hR hf k
  · rw [if_neg c] at hf
    exact cr_225_15 hd hR hf k
def cf_225_8 (N : Nat) (X : Nat → Option zz_C) (x1 : Int64) (x3 : Int64) (x5 : Int64) (x7 : Int64) (t : cS) : kO := ko_call 1000 (cf_255 N X x3 t) (fun g1 v1 => co_i v1 (fun y => cf_225_12 N X x1 x3 x5 x7 y g1))
theorem cr_225_8 {X : Nat → Option zz_C} {s : mS} {N : Nat} {d : Nat} (hd : 1 ≤ d) {Q : zz_O → zz_H → Prop} {x1 : Int64} {x3 : Int64} {x5 : Int64} {x7 : Int64} {h : zz_H} {t t' : cS} {o : kY} (hR : kR h t s) (hf : cf_225_8 N X x1 x3 x5 x7 t = some (t', o)) (k : (∀ h', kR h' t' s → kE o Q h')) : zz_J zp_P zt_tf zt_fd X d zm_225 8 [(0, .ref 58), (1, .long x1), (3, .long x3), (5, .long x5), (7, .long x7)] [] h Q := by
  unfold cf_225_8 at hf
  obtain ⟨d', rfl⟩ : ∃ d', d = d' + 1 := ⟨d - 1, by omega⟩
  refine cb_225_8 hR  (fun {h} hR => ?_)
  rcases ko_call_ok hf with ⟨g1, v1, er, hf⟩ | ⟨g1, er, hq⟩
  · obtain ⟨y, hv, hf2⟩ := co_i_ok hf
    clear hf
    have hf := hf2
    clear hf2
    subst hv
    refine cr_255 (by omega) hR er (fun h hR => ?_)
    exact cr_225_12 hd hR hf k
  · refine cr_255 (by omega) hR er (fun h hR => ?_)
    exact ko_thrown hq hR k
def cf_225_4 (N : Nat) (X : Nat → Option zz_C) (x1 : Int64) (x3 : Int64) (x5 : Int64) (x7 : Int64) (y0 : Int32) (t : cS) : kO := if ¬ y0 = 2 then cf_225_31 N X  t else cf_225_8 N X x1 x3 x5 x7 t
theorem cr_225_4 {X : Nat → Option zz_C} {s : mS} {N : Nat} {d : Nat} (hd : 1 ≤ d) {Q : zz_O → zz_H → Prop} {x1 : Int64} {x3 : Int64} {x5 : Int64} {x7 : Int64} {y0 : Int32} {h : zz_H} {t t' : cS} {o : kY} (hR : kR h t s) (hf : cf_225_4 N X x1 x3 x5 x7 y0 t = some (t', o)) (k : (∀ h', kR h' t' s → kE o Q h')) : zz_J zp_P zt_tf zt_fd X d zm_225 4 [(0, .ref 58), (1, .long x1), (3, .long x3), (5, .long x5), (7, .long x7)] [.int y0] h Q := by
  unfold cf_225_4 at hf
  refine cb_225_4 hR  (fun c {h} hR => ?_) (fun c {h} hR => ?_)
  · rw [if_pos c] at hf
    exact cr_225_31 hd hR hf k
  · rw [if_neg c] at hf
    exact cr_225_8 hd hR hf k
def cf_225_0 (N : Nat) (X : Nat → Option zz_C) (x1 : Int64) (x3 : Int64) (x5 : Int64) (x7 : Int64) (t : cS) : kO := ko_call 1000 (cf_255 N X x1 t) (fun g1 v1 => co_i v1 (fun y => cf_225_4 N X x1 x3 x5 x7 y g1))
theorem cr_225_0 {X : Nat → Option zz_C} {s : mS} {N : Nat} {d : Nat} (hd : 1 ≤ d) {Q : zz_O → zz_H → Prop} {x1 : Int64} {x3 : Int64} {x5 : Int64} {x7 : Int64} {h : zz_H} {t t' : cS} {o : kY} (hR : kR h t s) (hf : cf_225_0 N X x1 x3 x5 x7 t = some (t', o)) (k : (∀ h', kR h' t' s → kE o Q h')) : zz_J zp_P zt_tf zt_fd X d zm_225 0 [(0, .ref 58), (1, .long x1), (3, .long x3), (5, .long x5), (7, .long x7)] [] h Q := by
  unfold cf_225_0 at hf
  obtain ⟨d', rfl⟩ : ∃ d', d = d' + 1 := ⟨d - 1, by omega⟩
  refine cb_225_0 hR  (fun {h} hR => ?_)
  rcases ko_call_ok hf with ⟨g1, v1, er, hf⟩ | ⟨g1, er, hq⟩
  · obtain ⟨y, hv, hf2⟩ := co_i_ok hf
    clear hf
    have hf := hf2
    clear hf2
    subst hv
    refine cr_255 (by omega) hR er (fun h hR => ?_)
    exact cr_225_4 hd hR hf k
  · refine cr_255 (by omega) hR er (fun h hR => ?_)
    exact ko_thrown hq hR k
/-- cellTrouble -/
def cf_225 (N : Nat) (X : Nat → Option zz_C) (x1 : Int64) (x3 : Int64) (x5 : Int64) (x7 : Int64) (t : cS) : kO := cf_225_0 N X x1 x3 x5 x7 t
theorem cr_225 {X : Nat → Option zz_C} {s : mS} {N : Nat} {d : Nat} (hd : 1 ≤ d) {Q : zz_O → zz_H → Prop} {x1 : Int64} {x3 : Int64} {x5 : Int64} {x7 : Int64} {h : zz_H} {t t' : cS} {o : kY} (hR : kR h t s) (hf : cf_225 N X x1 x3 x5 x7 t = some (t', o)) (k : ∀ h', kR h' t' s → kE o Q h') : zz_J zp_P zt_tf zt_fd X d zm_225 0 [(0, .ref 58), (1, .long x1), (3, .long x3), (5, .long x5), (7, .long x7)] [] h Q := by
  unfold cf_225 at hf
  exact zz_J.weak (cr_225_0 hd hR hf k) rfl ⟨rfl, rfl, rfl, rfl, rfl, trivial⟩
