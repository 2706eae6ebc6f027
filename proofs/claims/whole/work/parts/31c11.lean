/-! yX3_leave ()V -/
theorem cb_158_0 {X : Nat → Option zz_C} {h : zz_H} {t : cS} {s : mS} {d : Nat} {Q : zz_O → zz_H → Prop}  (hR : kR h t s) (k : ∀ {h : zz_H}, kR h t s → zz_J zp_P zt_tf zt_fd X d zm_166 0 [(0, .ref 49)] [] h (zz_after 3 Q (fun v h' => zz_J zp_P zt_tf zt_fd X (d + 1) zm_158 4 [(0, .ref 49)] (v.toList ++ []) h' Q))) : zz_J zp_P zt_tf zt_fd X (d + 1) zm_158 0 [(0, .ref 49)] [] h Q := by
  refine zz_J.n 1 rfl rfl rfl ?_
  refine zz_J.cv 4 (as := []) rfl rfl (hR.clO ko_49 (by decide) (by decide)) (by decide) (Nat.le_of_ble_eq_true rfl) (Nat.le_of_ble_eq_true rfl) rfl (Nat.le_of_ble_eq_true rfl) rfl ?_
  refine zz_J.mono (k hR) ?_
  intro o h' hE
  cases o with
  | inl v => exact zz_J.weak hE rfl ⟨rfl, trivial⟩
  | inr q => exact hE
theorem cb_158_4 {X : Nat → Option zz_C} {h : zz_H} {t : cS} {s : mS} {d : Nat} {Q : zz_O → zz_H → Prop} {y0 : Int64} (hR : kR h t s) (k : ∀ {h : zz_H}, kR h t s → zz_J zp_P zt_tf zt_fd X d zm_158 5 [(0, .ref 49), (1, .long y0)] [] h Q) : zz_J zp_P zt_tf zt_fd X d zm_158 4 [(0, .ref 49)] [.long y0] h Q := by
  refine zz_J.n 5 rfl rfl rfl ?_
  exact zz_J.weak (k hR) rfl ⟨rfl, rfl, trivial⟩
theorem cb_158_5 {X : Nat → Option zz_C} {h : zz_H} {t : cS} {s : mS} {d : Nat} {Q : zz_O → zz_H → Prop} {x1 : Int64} (hR : kR h t s) (k1 : (kI t 49 15) ≤ 0 → (∀ {h : zz_H}, kR h t s → zz_J zp_P zt_tf zt_fd X d zm_158 43 [(0, .ref 49), (1, .long x1)] [] h Q)) (k2 : ¬ (kI t 49 15) ≤ 0 → (∀ {h : zz_H}, kR h t s → zz_J zp_P zt_tf zt_fd X d zm_158 12 [(0, .ref 49), (1, .long x1)] [] h Q)) : zz_J zp_P zt_tf zt_fd X d zm_158 5 [(0, .ref 49), (1, .long x1)] [] h Q := by
  refine zz_J.n 6 rfl rfl rfl ?_
  refine zz_J.g 9 rfl (hR.gv (v := .int (kI t 49 15)) ko_49 (by decide) rfl) rfl ?_
  refine zz_J.b1 43 12 (A := (kI t 49 15) ≤ 0) rfl rfl (by decide) rfl rfl (fun c => ?_) (fun c => ?_)
  · exact zz_J.weak (k1 c hR) rfl ⟨rfl, rfl, trivial⟩
  · exact zz_J.weak (k2 c hR) rfl ⟨rfl, rfl, trivial⟩
theorem cb_158_12 {X : Nat → Option zz_C} {h : zz_H} {t : cS} {s : mS} {d : Nat} {Q : zz_O → zz_H → Prop} {x1 : Int64} (hR : kR h t s) (e0 : ¬ (((kI t 49 15) - 1) < 0 ∨ (kA t 55).1 ≤ (Int32.toNatClampNeg ((kI t 49 15) - 1)))) (k1 : ((kA t 55).2 (Int32.toNatClampNeg ((kI t 49 15) - 1))) < (kI t 49 11) → (∀ {h : zz_H}, kR h t s → zz_J zp_P zt_tf zt_fd X d zm_158 43 [(0, .ref 49), (1, .long x1)] [] h Q)) (k2 : ¬ ((kA t 55).2 (Int32.toNatClampNeg ((kI t 49 15) - 1))) < (kI t 49 11) → (∀ {h : zz_H}, kR h t s → zz_J zp_P zt_tf zt_fd X d zm_158 30 [(0, .ref 49), (1, .long x1)] [] h Q)) : zz_J zp_P zt_tf zt_fd X d zm_158 12 [(0, .ref 49), (1, .long x1)] [] h Q := by
  refine zz_J.n 13 rfl rfl rfl ?_
  refine zz_J.g 16 rfl (hR.gv (v := .ref (kD t 55)) ko_49 (by decide) rfl) rfl ?_
  refine zz_J.n 17 rfl rfl rfl ?_
  refine zz_J.g 20 rfl (hR.gv (v := .int (kI t 49 15)) ko_49 (by decide) rfl) rfl ?_
  refine zz_J.c 21 (.int 1) rfl rfl rfl rfl ?_
  refine zz_J.n 22 rfl rfl rfl ?_
  refine zz_J.ai 23 rfl (hR.ai (w := ((kA t 55).2 (Int32.toNatClampNeg ((kI t 49 15) - 1)))) ka_55 rfl e0 rfl) rfl ?_
  refine zz_J.n 24 rfl rfl rfl ?_
  refine zz_J.g 27 rfl (hR.gv (v := .int (kI t 49 11)) ko_49 (by decide) rfl) rfl ?_
  refine zz_J.b2 43 30 (A := ((kA t 55).2 (Int32.toNatClampNeg ((kI t 49 15) - 1))) < (kI t 49 11)) rfl rfl (by decide) rfl rfl (fun c => ?_) (fun c => ?_)
  · exact zz_J.weak (k1 c hR) rfl ⟨rfl, rfl, trivial⟩
  · exact zz_J.weak (k2 c hR) rfl ⟨rfl, rfl, trivial⟩
theorem cb_158_30 {X : Nat → Option zz_C} {h : zz_H} {t : cS} {s : mS} {d : Nat} {Q : zz_O → zz_H → Prop} {x1 : Int64} (hR : kR h t s) (k : ∀ {h : zz_H}, kR h (jI t 49 15 ((kI t 49 15) - 1)) s → zz_J zp_P zt_tf zt_fd X d zm_158 5 [(0, .ref 49), (1, .long x1)] [] h Q) : zz_J zp_P zt_tf zt_fd X d zm_158 30 [(0, .ref 49), (1, .long x1)] [] h Q := by
  refine zz_J.n 31 rfl rfl rfl ?_
  refine zz_J.n 32 rfl rfl rfl ?_
  refine zz_J.g 35 rfl (hR.gv (v := .int (kI t 49 15)) ko_49 (by decide) rfl) rfl ?_
  refine zz_J.c 36 (.int 1) rfl rfl rfl rfl ?_
  refine zz_J.n 37 rfl rfl rfl ?_
  obtain ⟨h1, eq1, hR⟩ := hR.pI (x := ((kI t 49 15) - 1)) (by decide) ko_49 (kpi_49_15 _) (Nat.le_of_ble_eq_true rfl) rfl
  refine zz_J.pv 40 rfl eq1 rfl ?_
  clear eq1
  refine zz_J.n 5 rfl rfl rfl ?_
  exact zz_J.weak (k hR) rfl ⟨rfl, rfl, trivial⟩
theorem cb_158_43 {X : Nat → Option zz_C} {h : zz_H} {t : cS} {s : mS} {d : Nat} {Q : zz_O → zz_H → Prop} {x1 : Int64} (hR : kR h t s) (k1 : (kI t 49 11) ≤ 0 → (∀ {h : zz_H}, kR h t s → zz_J zp_P zt_tf zt_fd X d zm_158 86 [(0, .ref 49), (1, .long x1)] [] h Q)) (k2 : ¬ (kI t 49 11) ≤ 0 → (∀ {h : zz_H}, kR h t s → zz_J zp_P zt_tf zt_fd X d zm_158 50 [(0, .ref 49), (1, .long x1)] [] h Q)) : zz_J zp_P zt_tf zt_fd X d zm_158 43 [(0, .ref 49), (1, .long x1)] [] h Q := by
  refine zz_J.n 44 rfl rfl rfl ?_
  refine zz_J.g 47 rfl (hR.gv (v := .int (kI t 49 11)) ko_49 (by decide) rfl) rfl ?_
  refine zz_J.b1 86 50 (A := (kI t 49 11) ≤ 0) rfl rfl (by decide) rfl rfl (fun c => ?_) (fun c => ?_)
  · exact zz_J.weak (k1 c hR) rfl ⟨rfl, rfl, trivial⟩
  · exact zz_J.weak (k2 c hR) rfl ⟨rfl, rfl, trivial⟩
theorem cb_158_50 {X : Nat → Option zz_C} {h : zz_H} {t : cS} {s : mS} {d : Nat} {Q : zz_O → zz_H → Prop} {x1 : Int64} (hR : kR h t s) (e0 : ¬ (((kI t 49 11) - 1) < 0 ∨ (kA t 53).1 ≤ (Int32.toNatClampNeg ((kI t 49 11) - 1)))) (e1 : ¬ (((kI t 49 11) - 1) < 0 ∨ (kA t 54).1 ≤ (Int32.toNatClampNeg ((kI t 49 11) - 1)))) (k : ∀ {h : zz_H}, kR h (jI (jI (jI t 49 11 ((kI t 49 11) - 1)) 49 8 ((kA t 53).2 (Int32.toNatClampNeg ((kI t 49 11) - 1)))) 49 17 ((kA t 54).2 (Int32.toNatClampNeg ((kI t 49 11) - 1)))) s → zz_J zp_P zt_tf zt_fd X d zm_158 86 [(0, .ref 49), (1, .long x1)] [] h Q) : zz_J zp_P zt_tf zt_fd X d zm_158 50 [(0, .ref 49), (1, .long x1)] [] h Q := by
  refine zz_J.n 51 rfl rfl rfl ?_
  refine zz_J.n 52 rfl rfl rfl ?_
  refine zz_J.g 55 rfl (hR.gv (v := .int (kI t 49 11)) ko_49 (by decide) rfl) rfl ?_
  refine zz_J.c 56 (.int 1) rfl rfl rfl rfl ?_
  refine zz_J.n 57 rfl rfl rfl ?_
  obtain ⟨h1, eq1, hR⟩ := hR.pI (x := ((kI t 49 11) - 1)) (by decide) ko_49 (kpi_49_11 _) (Nat.le_of_ble_eq_true rfl) rfl
  refine zz_J.pv 60 rfl eq1 rfl ?_
  clear eq1
  refine zz_J.n 61 rfl rfl rfl ?_
  refine zz_J.n 62 rfl rfl rfl ?_
  refine zz_J.g 65 rfl (hR.gv (v := .ref (kD t 53)) ko_49 (by decide) rfl) rfl ?_
  refine zz_J.n 66 rfl rfl rfl ?_
  refine zz_J.g 69 rfl (hR.gv (v := .int ((kI t 49 11) - 1)) ko_49 (by decide) rfl) rfl ?_
  refine zz_J.ai 70 rfl (hR.ai (w := ((kA t 53).2 (Int32.toNatClampNeg ((kI t 49 11) - 1)))) ka_53 rfl e0 rfl) rfl ?_
  obtain ⟨h1, eq1, hR⟩ := hR.pI (x := ((kA t 53).2 (Int32.toNatClampNeg ((kI t 49 11) - 1)))) (by decide) ko_49 (kpi_49_8 _) (Nat.le_of_ble_eq_true rfl) rfl
  refine zz_J.pv 73 rfl eq1 rfl ?_
  clear eq1
  refine zz_J.n 74 rfl rfl rfl ?_
  refine zz_J.n 75 rfl rfl rfl ?_
  refine zz_J.g 78 rfl (hR.gv (v := .ref (kD t 54)) ko_49 (by decide) rfl) rfl ?_
  refine zz_J.n 79 rfl rfl rfl ?_
  refine zz_J.g 82 rfl (hR.gv (v := .int ((kI t 49 11) - 1)) ko_49 (by decide) rfl) rfl ?_
  refine zz_J.ai 83 rfl (hR.ai (w := ((kA t 54).2 (Int32.toNatClampNeg ((kI t 49 11) - 1)))) ka_54 rfl e1 rfl) rfl ?_
  obtain ⟨h1, eq1, hR⟩ := hR.pI (x := ((kA t 54).2 (Int32.toNatClampNeg ((kI t 49 11) - 1)))) (by decide) ko_49 (kpi_49_17 _) (Nat.le_of_ble_eq_true rfl) rfl
  refine zz_J.pv 86 rfl eq1 rfl ?_
  clear eq1
  exact zz_J.weak (k hR) rfl ⟨rfl, rfl, trivial⟩
theorem cb_158_86 {X : Nat → Option zz_C} {h : zz_H} {t : cS} {s : mS} {d : Nat} {Q : zz_O → zz_H → Prop} {x1 : Int64} (hR : kR h t s) (k : ∀ {h : zz_H}, kR h t s → zz_J zp_P zt_tf zt_fd X d zm_165 0 [(0, .ref 49), (1, .long x1)] [] h (zz_after 3 Q (fun v h' => zz_J zp_P zt_tf zt_fd X (d + 1) zm_158 91 [(0, .ref 49)] (v.toList ++ []) h' Q))) : zz_J zp_P zt_tf zt_fd X (d + 1) zm_158 86 [(0, .ref 49), (1, .long x1)] [] h Q := by
  refine zz_J.n 87 rfl rfl rfl ?_
  refine zz_J.n 88 rfl rfl rfl ?_
  refine zz_J.cv 91 (as := []) rfl rfl (hR.clO ko_49 (by decide) (by decide)) (by decide) (Nat.le_of_ble_eq_true rfl) (Nat.le_of_ble_eq_true rfl) rfl (Nat.le_of_ble_eq_true rfl) rfl ?_
  refine zz_J.mono (k hR) ?_
  intro o h' hE
  cases o with
  | inl v => exact zz_J.weak hE rfl ⟨rfl, trivial⟩
  | inr q => exact hE
theorem cb_158_91 {X : Nat → Option zz_C} {h : zz_H} {t : cS} {s : mS} {d : Nat} {Q : zz_O → zz_H → Prop}  (hR : kR h t s) (k1 : (kI t 49 11) ≤ 0 → (∀ {h : zz_H}, kR h t s → zz_J zp_P zt_tf zt_fd X d zm_158 103 [] [.ref 49] h Q)) (k2 : ¬ (kI t 49 11) ≤ 0 → (∀ {h : zz_H}, kR h t s → zz_J zp_P zt_tf zt_fd X d zm_158 99 [] [.ref 49] h Q)) : zz_J zp_P zt_tf zt_fd X d zm_158 91 [(0, .ref 49)] [] h Q := by
  refine zz_J.n 92 rfl rfl rfl ?_
  refine zz_J.n 93 rfl rfl rfl ?_
  refine zz_J.g 96 rfl (hR.gv (v := .int (kI t 49 11)) ko_49 (by decide) rfl) rfl ?_
  refine zz_J.b1 103 99 (A := (kI t 49 11) ≤ 0) rfl rfl (by decide) rfl rfl (fun c => ?_) (fun c => ?_)
  · exact zz_J.weak (k1 c hR) rfl trivial
  · exact zz_J.weak (k2 c hR) rfl trivial
theorem cb_158_99 {X : Nat → Option zz_C} {h : zz_H} {t : cS} {s : mS} {d : Nat} {Q : zz_O → zz_H → Prop}  (hR : kR h t s) (k : ∀ {h : zz_H}, kR h t s → zz_J zp_P zt_tf zt_fd X d zm_158 104 [] [.int 1, .ref 49] h Q) : zz_J zp_P zt_tf zt_fd X d zm_158 99 [] [.ref 49] h Q := by
  refine zz_J.c 100 (.int 1) rfl rfl rfl rfl ?_
  refine zz_J.n 104 rfl rfl rfl ?_
  exact zz_J.weak (k hR) rfl trivial
theorem cb_158_103 {X : Nat → Option zz_C} {h : zz_H} {t : cS} {s : mS} {d : Nat} {Q : zz_O → zz_H → Prop}  (hR : kR h t s) (k : ∀ {h : zz_H}, kR h t s → zz_J zp_P zt_tf zt_fd X d zm_158 104 [] [.int 0, .ref 49] h Q) : zz_J zp_P zt_tf zt_fd X d zm_158 103 [] [.ref 49] h Q := by
  refine zz_J.c 104 (.int 0) rfl rfl rfl rfl ?_
  exact zz_J.weak (k hR) rfl trivial
theorem cb_158_104 {X : Nat → Option zz_C} {h : zz_H} {t : cS} {s : mS} {d : Nat} {Q : zz_O → zz_H → Prop} {y1 : Int32} (hR : kR h t s) (e0 : zz_fit .boolean (.int y1) = true) (k : ∀ {h : zz_H}, kR h (jI t 49 18 y1) s → Q (.inl none) h) : zz_J zp_P zt_tf zt_fd X d zm_158 104 [] [.int y1, .ref 49] h Q := by
  obtain ⟨h1, eq1, hR⟩ := hR.pI (x := y1) (by decide) ko_49 (kpi_49_18 _) (Nat.le_of_ble_eq_true rfl) e0
  refine zz_J.pv 107 rfl eq1 rfl ?_
  clear eq1
  refine zz_J.ret rfl rfl rfl ?_
  exact k hR
def cf_158_104 (N : Nat) (X : Nat → Option zz_C) (y1 : Int32) (t : cS) : kO := if zz_fit .boolean (.int y1) = true then (some ((jI t 49 18 y1), .inl none)) else none
theorem cr_158_104 {X : Nat → Option zz_C} {s : mS} {N : Nat} {d : Nat} (hd : 10 ≤ d) {Q : zz_O → zz_H → Prop} {y1 : Int32} {h : zz_H} {t t' : cS} {o : kY} (hR : kR h t s) (hf : cf_158_104 N X y1 t = some (t', o)) (k : (∀ h', kR h' t' s → kE o Q h')) : zz_J zp_P zt_tf zt_fd X d zm_158 104 [] [.int y1, .ref 49] h Q := by
  unfold cf_158_104 at hf
  obtain ⟨e0, hf⟩ := ko_if hf
  cases hf
  exact cb_158_104 hR e0 (fun {h} hR => k h hR)
def cf_158_103 (N : Nat) (X : Nat → Option zz_C)  (t : cS) : kO := cf_158_104 N X 0 t
theorem cr_158_103 {X : Nat → Option zz_C} {s : mS} {N : Nat} {d : Nat} (hd : 10 ≤ d) {Q : zz_O → zz_H → Prop}  {h : zz_H} {t t' : cS} {o : kY} (hR : kR h t s) (hf : cf_158_103 N X  t = some (t', o)) (k : (∀ h', kR h' t' s → kE o Q h')) : zz_J zp_P zt_tf zt_fd X d zm_158 103 [] [.ref 49] h Q := by
  unfold cf_158_103 at hf
  exact cb_158_103 hR  (fun hR => cr_158_104 hd hR hf k)
def cf_158_99 (N : Nat) (X : Nat → Option zz_C)  (t : cS) : kO := cf_158_104 N X 1 t
theorem cr_158_99 {X : Nat → Option zz_C} {s : mS} {N : Nat} {d : Nat} (hd : 10 ≤ d) {Q : zz_O → zz_H → Prop}  {h : zz_H} {t t' : cS} {o : kY} (hR : kR h t s) (hf : cf_158_99 N X  t = some (t', o)) (k : (∀ h', kR h' t' s → kE o Q h')) : zz_J zp_P zt_tf zt_fd X d zm_158 99 [] [.ref 49] h Q := by
  unfold cf_158_99 at hf
  exact cb_158_99 hR  (fun hR => cr_158_104 hd hR hf k)
def cf_158_91 (N : Nat) (X : Nat → Option zz_C)  (t : cS) : kO := if (kI t 49 11) ≤ 0 then cf_158_103 N X  t else cf_158_99 N X  t
theorem cr_158_91 {X : Nat → Option zz_C} {s : mS} {N : Nat} {d : Nat} (hd : 10 ≤ d) {Q : zz_O → zz_H → Prop}  {h : zz_H} {t t' : cS} {o : kY} (hR : kR h t s) (hf : cf_158_91 N X  t = some (t', o)) (k : (∀ h', kR h' t' s → kE o Q h')) : zz_J zp_P zt_tf zt_fd X d zm_158 91 [(0, .ref 49)] [] h Q := by
  unfold cf_158_91 at hf
  refine cb_158_91 hR  (fun c {h} hR => ?_) (fun c {h} hR => ?_)
  · rw [if_pos c] at hf
    exact cr_158_103 hd hR hf k
  · rw [if_neg c] at hf
    exact cr_158_99 hd hR hf k
def cf_158_86 (N : Nat) (X : Nat → Option zz_C) (x1 : Int64) (t : cS) : kO := ko_call 3 (cf_165 N X x1 t) (fun g1 v1 => co_v v1 (cf_158_91 N X  g1))
theorem cr_158_86 {X : Nat → Option zz_C} {s : mS} {N : Nat} {d : Nat} (hd : 10 ≤ d) {Q : zz_O → zz_H → Prop} {x1 : Int64} {h : zz_H} {t t' : cS} {o : kY} (hR : kR h t s) (hf : cf_158_86 N X x1 t = some (t', o)) (k : (∀ h', kR h' t' s → kE o Q h')) : zz_J zp_P zt_tf zt_fd X d zm_158 86 [(0, .ref 49), (1, .long x1)] [] h Q := by
  unfold cf_158_86 at hf
  obtain ⟨d', rfl⟩ : ∃ d', d = d' + 1 := ⟨d - 1, by omega⟩
  refine cb_158_86 hR  (fun {h} hR => ?_)
  rcases ko_call_ok hf with ⟨g1, v1, er, hf⟩ | ⟨g1, er, hq⟩
  · obtain ⟨hv, hf2⟩ := co_v_ok hf
    clear hf
    have hf := hf2
    clear hf2
    subst hv
    refine cr_165 (by omega) hR er (fun h hR => ?_)
    exact cr_158_91 hd hR hf k
  · refine cr_165 (by omega) hR er (fun h hR => ?_)
    exact ko_thrown hq hR k
def cf_158_50 (N : Nat) (X : Nat → Option zz_C) (x1 : Int64) (t : cS) : kO := if ¬ (((kI t 49 11) - 1) < 0 ∨ (kA t 53).1 ≤ (Int32.toNatClampNeg ((kI t 49 11) - 1))) then (if ¬ (((kI t 49 11) - 1) < 0 ∨ (kA t 54).1 ≤ (Int32.toNatClampNeg ((kI t 49 11) - 1))) then (cf_158_86 N X x1 (jI (jI (jI t 49 11 ((kI t 49 11) - 1)) 49 8 ((kA t 53).2 (Int32.toNatClampNeg ((kI t 49 11) - 1)))) 49 17 ((kA t 54).2 (Int32.toNatClampNeg ((kI t 49 11) - 1))))) else none) else none
theorem cr_158_50 {X : Nat → Option zz_C} {s : mS} {N : Nat} {d : Nat} (hd : 10 ≤ d) {Q : zz_O → zz_H → Prop} {x1 : Int64} {h : zz_H} {t t' : cS} {o : kY} (hR : kR h t s) (hf : cf_158_50 N X x1 t = some (t', o)) (k : (∀ h', kR h' t' s → kE o Q h')) : zz_J zp_P zt_tf zt_fd X d zm_158 50 [(0, .ref 49), (1, .long x1)] [] h Q := by
  unfold cf_158_50 at hf
  obtain ⟨e0, hf⟩ := ko_if hf
  obtain ⟨e1, hf⟩ := ko_if hf
  exact cb_158_50 hR e0 e1 (fun hR => cr_158_86 hd hR hf k)
def cf_158_43 (N : Nat) (X : Nat → Option zz_C) (x1 : Int64) (t : cS) : kO := if (kI t 49 11) ≤ 0 then cf_158_86 N X x1 t else cf_158_50 N X x1 t
theorem cr_158_43 {X : Nat → Option zz_C} {s : mS} {N : Nat} {d : Nat} (hd : 10 ≤ d) {Q : zz_O → zz_H → Prop} {x1 : Int64} {h : zz_H} {t t' : cS} {o : kY} (hR : kR h t s) (hf : cf_158_43 N X x1 t = some (t', o)) (k : (∀ h', kR h' t' s → kE o Q h')) : zz_J zp_P zt_tf zt_fd X d zm_158 43 [(0, .ref 49), (1, .long x1)] [] h Q := by
  unfold cf_158_43 at hf
  refine cb_158_43 hR  (fun c {h} hR => ?_) (fun c {h} hR => ?_)
  · rw [if_pos c] at hf
    exact cr_158_86 hd hR hf k
  · rw [if_neg c] at hf
    exact cr_158_50 hd hR hf k
def cf_158_30 (N : Nat) (X : Nat → Option zz_C) (rc : Nat → Int64 → cS → kO) (x1 : Int64) (t : cS) : kO := rc 0 x1 (jI t 49 15 ((kI t 49 15) - 1))
theorem cr_158_30 {X : Nat → Option zz_C} {s : mS} {N : Nat} {d : Nat} (hd : 10 ≤ d) {rc : Nat → Int64 → cS → kO} (hrc0 : ∀ {Q : zz_O → zz_H → Prop} {x1 : Int64} {h : zz_H} {t t' : cS} {o : kY}, kR h t s → rc 0 x1 t = some (t', o) → (∀ h', kR h' t' s → kE o Q h') → zz_J zp_P zt_tf zt_fd X d zm_158 5 [(0, .ref 49), (1, .long x1)] [] h Q) {Q : zz_O → zz_H → Prop} {x1 : Int64} {h : zz_H} {t t' : cS} {o : kY} (hR : kR h t s) (hf : cf_158_30 N X rc x1 t = some (t', o)) (k : (∀ h', kR h' t' s → kE o Q h')) : zz_J zp_P zt_tf zt_fd X d zm_158 30 [(0, .ref 49), (1, .long x1)] [] h Q := by
  unfold cf_158_30 at hf
  exact cb_158_30 hR  (fun hR => hrc0 hR hf k)
def cf_158_12 (N : Nat) (X : Nat → Option zz_C) (rc : Nat → Int64 → cS → kO) (x1 : Int64) (t : cS) : kO := if ¬ (((kI t 49 15) - 1) < 0 ∨ (kA t 55).1 ≤ (Int32.toNatClampNeg ((kI t 49 15) - 1))) then (if ((kA t 55).2 (Int32.toNatClampNeg ((kI t 49 15) - 1))) < (kI t 49 11) then cf_158_43 N X x1 t else cf_158_30 N X rc x1 t) else none
theorem cr_158_12 {X : Nat → Option zz_C} {s : mS} {N : Nat} {d : Nat} (hd : 10 ≤ d) {rc : Nat → Int64 → cS → kO} (hrc0 : ∀ {Q : zz_O → zz_H → Prop} {x1 : Int64} {h : zz_H} {t t' : cS} {o : kY}, kR h t s → rc 0 x1 t = some (t', o) → (∀ h', kR h' t' s → kE o Q h') → zz_J zp_P zt_tf zt_fd X d zm_158 5 [(0, .ref 49), (1, .long x1)] [] h Q) {Q : zz_O → zz_H → Prop} {x1 : Int64} {h : zz_H} {t t' : cS} {o : kY} (hR : kR h t s) (hf : cf_158_12 N X rc x1 t = some (t', o)) (k : (∀ h', kR h' t' s → kE o Q h')) : zz_J zp_P zt_tf zt_fd X d zm_158 12 [(0, .ref 49), (1, .long x1)] [] h Q := by
  unfold cf_158_12 at hf
  obtain ⟨e0, hf⟩ := ko_if hf
  refine cb_158_12 hR e0 (fun c {h} hR => ?_) (fun c {h} hR => ?_)
  · rw [if_pos c] at hf
    exact cr_158_43 hd hR hf k
  · rw [if_neg c] at hf
    exact cr_158_30 hd hrc0 hR hf k
def cf_158_5 (N : Nat) (X : Nat → Option zz_C) (rc : Nat → Int64 → cS → kO) (x1 : Int64) (t : cS) : kO := if (kI t 49 15) ≤ 0 then cf_158_43 N X x1 t else cf_158_12 N X rc x1 t
theorem cr_158_5 {X : Nat → Option zz_C} {s : mS} {N : Nat} {d : Nat} (hd : 10 ≤ d) {rc : Nat → Int64 → cS → kO} (hrc0 : ∀ {Q : zz_O → zz_H → Prop} {x1 : Int64} {h : zz_H} {t t' : cS} {o : kY}, kR h t s → rc 0 x1 t = some (t', o) → (∀ h', kR h' t' s → kE o Q h') → zz_J zp_P zt_tf zt_fd X d zm_158 5 [(0, .ref 49), (1, .long x1)] [] h Q) {Q : zz_O → zz_H → Prop} {x1 : Int64} {h : zz_H} {t t' : cS} {o : kY} (hR : kR h t s) (hf : cf_158_5 N X rc x1 t = some (t', o)) (k : (∀ h', kR h' t' s → kE o Q h')) : zz_J zp_P zt_tf zt_fd X d zm_158 5 [(0, .ref 49), (1, .long x1)] [] h Q := by
  unfold cf_158_5 at hf
  refine cb_158_5 hR  (fun c {h} hR => ?_) (fun c {h} hR => ?_)
  · rw [if_pos c] at hf
    exact cr_158_43 hd hR hf k
  · rw [if_neg c] at hf
    exact cr_158_12 hd hrc0 hR hf k
def cf_158_L7 (N : Nat) (X : Nat → Option zz_C) : Nat → Nat → Int64 → cS → kO
  | 0, _, _, _ => none
  | n + 1, l, x1, t => if l = 0 then cf_158_5 N X (cf_158_L7 N X n) x1 t else none
theorem cr_158_L7 {X : Nat → Option zz_C} {s : mS} {N : Nat} {d : Nat} (hd : 10 ≤ d) : ∀ n : Nat, (∀ {Q : zz_O → zz_H → Prop} {x1 : Int64} {h : zz_H} {t t' : cS} {o : kY}, kR h t s → cf_158_L7 N X n 0 x1 t = some (t', o) → (∀ h', kR h' t' s → kE o Q h') → zz_J zp_P zt_tf zt_fd X d zm_158 5 [(0, .ref 49), (1, .long x1)] [] h Q) := by
  intro n
  induction n with
  | zero => exact (fun _ hf _ => by cases hf)
  | succ n ih =>
    have h0 := @ih
    intro Q _ h t t' o hR hf k
    unfold cf_158_L7 at hf
    rw [if_pos rfl] at hf
    exact cr_158_5 hd h0 hR hf k
def cf_158_4 (N : Nat) (X : Nat → Option zz_C) (y0 : Int64) (t : cS) : kO := cf_158_L7 N X N 0 y0 t
theorem cr_158_4 {X : Nat → Option zz_C} {s : mS} {N : Nat} {d : Nat} (hd : 10 ≤ d) {Q : zz_O → zz_H → Prop} {y0 : Int64} {h : zz_H} {t t' : cS} {o : kY} (hR : kR h t s) (hf : cf_158_4 N X y0 t = some (t', o)) (k : (∀ h', kR h' t' s → kE o Q h')) : zz_J zp_P zt_tf zt_fd X d zm_158 4 [(0, .ref 49)] [.long y0] h Q := by
  unfold cf_158_4 at hf
  exact cb_158_4 hR  (fun hR => cr_158_L7 hd N hR hf k)
def cf_158_0 (N : Nat) (X : Nat → Option zz_C)  (t : cS) : kO := ko_call 3 (cf_166 N X  t) (fun g1 v1 => co_l v1 (fun y => cf_158_4 N X y g1))
theorem cr_158_0 {X : Nat → Option zz_C} {s : mS} {N : Nat} {d : Nat} (hd : 10 ≤ d) {Q : zz_O → zz_H → Prop}  {h : zz_H} {t t' : cS} {o : kY} (hR : kR h t s) (hf : cf_158_0 N X  t = some (t', o)) (k : (∀ h', kR h' t' s → kE o Q h')) : zz_J zp_P zt_tf zt_fd X d zm_158 0 [(0, .ref 49)] [] h Q := by
  unfold cf_158_0 at hf
  obtain ⟨d', rfl⟩ : ∃ d', d = d' + 1 := ⟨d - 1, by omega⟩
  refine cb_158_0 hR  (fun {h} hR => ?_)
  rcases ko_call_ok hf with ⟨g1, v1, er, hf⟩ | ⟨g1, er, hq⟩
  · obtain ⟨y, hv, hf2⟩ := co_l_ok hf
    clear hf
    have hf := hf2
    clear hf2
    subst hv
    refine cr_166 (by omega) hR er (fun h hR => ?_)
    exact cr_158_4 hd hR hf k
  · refine cr_166 (by omega) hR er (fun h hR => ?_)
    exact ko_thrown hq hR k
/-- leave -/
def cf_158 (N : Nat) (X : Nat → Option zz_C)  (t : cS) : kO := cf_158_0 N X  t
theorem cr_158 {X : Nat → Option zz_C} {s : mS} {N : Nat} {d : Nat} (hd : 10 ≤ d) {Q : zz_O → zz_H → Prop}  {h : zz_H} {t t' : cS} {o : kY} (hR : kR h t s) (hf : cf_158 N X  t = some (t', o)) (k : ∀ h', kR h' t' s → kE o Q h') : zz_J zp_P zt_tf zt_fd X d zm_158 0 [(0, .ref 49)] [] h Q := by
  unfold cf_158 at hf
  exact zz_J.weak (cr_158_0 hd hR hf k) rfl ⟨rfl, trivial⟩
/-! yX4_put (I)V -/
theorem cb_171_0 {X : Nat → Option zz_C} {h : zz_H} {t : cS} {s : mS} {d : Nat} {Q : zz_O → zz_H → Prop} {x1 : Int32} (hR : kR h t s) (k1 : 600 ≤ (kI t 45 1) → (∀ {h : zz_H}, kR h t s → zz_J zp_P zt_tf zt_fd X d zm_171 56 [(0, .ref 45)] [] h Q)) (k2 : ¬ 600 ≤ (kI t 45 1) → (∀ {h : zz_H}, kR h t s → zz_J zp_P zt_tf zt_fd X d zm_171 10 [(0, .ref 45), (1, .int x1)] [] h Q)) : zz_J zp_P zt_tf zt_fd X d zm_171 0 [(0, .ref 45), (1, .int x1)] [] h Q := by
  refine zz_J.n 1 rfl rfl rfl ?_
  refine zz_J.g 4 rfl (hR.gv (v := .int (kI t 45 1)) ko_45 (by decide) rfl) rfl ?_
  refine zz_J.c 7 (.int 600) rfl rfl rfl rfl ?_
  refine zz_J.b2 56 10 (A := 600 ≤ (kI t 45 1)) rfl rfl (by decide) rfl rfl (fun c => ?_) (fun c => ?_)
  · exact zz_J.weak (k1 c hR) rfl ⟨rfl, trivial⟩
  · exact zz_J.weak (k2 c hR) rfl ⟨rfl, rfl, trivial⟩
theorem cb_171_10 {X : Nat → Option zz_C} {h : zz_H} {t : cS} {s : mS} {d : Nat} {Q : zz_O → zz_H → Prop} {x1 : Int32} (hR : kR h t s) (k1 : (kI t 45 1) < (Int32.ofNat (kA t 46).1) → (∀ {h : zz_H}, kR h t s → zz_J zp_P zt_tf zt_fd X d zm_171 45 [(0, .ref 45), (1, .int x1)] [] h Q)) (k2 : ¬ (kI t 45 1) < (Int32.ofNat (kA t 46).1) → (∀ {h : zz_H}, kR h t s → zz_J zp_P zt_tf zt_fd X d zm_171 22 [(0, .ref 45), (1, .int x1)] [] h Q)) : zz_J zp_P zt_tf zt_fd X d zm_171 10 [(0, .ref 45), (1, .int x1)] [] h Q := by
  refine zz_J.n 11 rfl rfl rfl ?_
  refine zz_J.g 14 rfl (hR.gv (v := .int (kI t 45 1)) ko_45 (by decide) rfl) rfl ?_
  refine zz_J.n 15 rfl rfl rfl ?_
  refine zz_J.g 18 rfl (hR.gv (v := .ref (kD t 46)) ko_45 (by decide) rfl) rfl ?_
  refine zz_J.ln 19 rfl (hR.ln (w := (Int32.ofNat (kA t 46).1)) ka_46 rfl (by decide) rfl) rfl ?_
  refine zz_J.b2 45 22 (A := (kI t 45 1) < (Int32.ofNat (kA t 46).1)) rfl rfl (by decide) rfl rfl (fun c => ?_) (fun c => ?_)
  · exact zz_J.weak (k1 c hR) rfl ⟨rfl, rfl, trivial⟩
  · exact zz_J.weak (k2 c hR) rfl ⟨rfl, rfl, trivial⟩
theorem cb_171_22 {X : Nat → Option zz_C} {h : zz_H} {t : cS} {s : mS} {d : Nat} {Q : zz_O → zz_H → Prop} {x1 : Int32} (hR : kR h t s) (e0 : ¬ (if 600 < ((2 * (kI t 45 1)) : Int32) then 600 else (2 * (kI t 45 1))) < 0 ∧ (Int32.toNatClampNeg (if 600 < ((2 * (kI t 45 1)) : Int32) then 600 else (2 * (kI t 45 1)))) ≤ 1000000 ∧ (kA t 46).1 ≤ 1000000 ∧ ¬ (if 600 < ((2 * (kI t 45 1)) : Int32) then 600 else (2 * (kI t 45 1))) = Int32.ofNat (kA t 46).1 ∧ (kN t) + 1 < zz_out ∧ zz_bts (kA t 46).2 0 (Nat.min (kA t 46).1 (Int32.toNatClampNeg (if 600 < ((2 * (kI t 45 1)) : Int32) then 600 else (2 * (kI t 45 1))))) = true) (k : ∀ {h : zz_H}, kR h (jMv (jNI t 3 (Int32.toNatClampNeg (if 600 < ((2 * (kI t 45 1)) : Int32) then 600 else (2 * (kI t 45 1)))) (kcp 0 (kA t 46).2 (Nat.min (kA t 46).1 (Int32.toNatClampNeg (if 600 < ((2 * (kI t 45 1)) : Int32) then 600 else (2 * (kI t 45 1))))))) 46) s → zz_J zp_P zt_tf zt_fd X (d + 9) zm_171 45 [(0, .ref 45), (1, .int x1)] [] h Q) : zz_J zp_P zt_tf zt_fd X (d + 9) zm_171 22 [(0, .ref 45), (1, .int x1)] [] h Q := by
  refine zz_J.n 23 rfl rfl rfl ?_
  refine zz_J.n 24 rfl rfl rfl ?_
  refine zz_J.g 27 rfl (hR.gv (v := .ref (kD t 46)) ko_45 (by decide) rfl) rfl ?_
  refine zz_J.c 28 (.int 2) rfl rfl rfl rfl ?_
  refine zz_J.n 29 rfl rfl rfl ?_
  refine zz_J.g 32 rfl (hR.gv (v := .int (kI t 45 1)) ko_45 (by decide) rfl) rfl ?_
  refine zz_J.n 33 rfl rfl rfl ?_
  refine zz_J.c 36 (.int 600) rfl rfl rfl rfl ?_
  refine zz_J.spec 39 rfl rfl (by decide) rfl rfl rfl ?_
  refine kq_copyb 42 rfl rfl hR (by omega) ka_46 rfl e0 (Nat.le_of_ble_eq_true rfl) (fun {h} hR => ?_)
  obtain ⟨h1, eq1, hR⟩ := hR.pMvb (k := 46) rfl (by decide) ko_45 (kpa_45_0) (Nat.le_of_ble_eq_true rfl) rfl rfl rfl ka_46
  refine zz_J.pv 45 rfl eq1 rfl ?_
  clear eq1
  exact zz_J.weak (k hR) rfl ⟨rfl, rfl, trivial⟩
theorem cb_171_45 {X : Nat → Option zz_C} {h : zz_H} {t : cS} {s : mS} {d : Nat} {Q : zz_O → zz_H → Prop} {x1 : Int32} (hR : kR h t s) (e0 : ¬ ((kI t 45 1) < 0 ∨ (kA t 46).1 ≤ (Int32.toNatClampNeg (kI t 45 1)))) (k : ∀ {h : zz_H}, kR h (jA t 46 (upd (kA t 46).2 (Int32.toNatClampNeg (kI t 45 1)) (vp_nar (zz_ty 2) (Int8.toInt32 (Int32.toInt8 x1))))) s → zz_J zp_P zt_tf zt_fd X d zm_171 56 [(0, .ref 45)] [] h Q) : zz_J zp_P zt_tf zt_fd X d zm_171 45 [(0, .ref 45), (1, .int x1)] [] h Q := by
  refine zz_J.n 46 rfl rfl rfl ?_
  refine zz_J.g 49 rfl (hR.gv (v := .ref (kD t 46)) ko_45 (by decide) rfl) rfl ?_
  refine zz_J.n 50 rfl rfl rfl ?_
  refine zz_J.g 53 rfl (hR.gv (v := .int (kI t 45 1)) ko_45 (by decide) rfl) rfl ?_
  refine zz_J.n 54 rfl rfl rfl ?_
  refine zz_J.n 55 rfl rfl rfl ?_
  obtain ⟨h1, eq1, hR⟩ := hR.sb (x := (Int8.toInt32 (Int32.toInt8 x1))) ka_46 rfl (by decide) e0
  refine zz_J.sb 56 rfl eq1 rfl ?_
  clear eq1
  exact zz_J.weak (k hR) rfl ⟨rfl, trivial⟩
theorem cb_171_56 {X : Nat → Option zz_C} {h : zz_H} {t : cS} {s : mS} {d : Nat} {Q : zz_O → zz_H → Prop}  (hR : kR h t s) (k : ∀ {h : zz_H}, kR h (jI t 45 1 ((kI t 45 1) + 1)) s → Q (.inl none) h) : zz_J zp_P zt_tf zt_fd X d zm_171 56 [(0, .ref 45)] [] h Q := by
  refine zz_J.n 57 rfl rfl rfl ?_
  refine zz_J.n 58 rfl rfl rfl ?_
  refine zz_J.g 61 rfl (hR.gv (v := .int (kI t 45 1)) ko_45 (by decide) rfl) rfl ?_
  refine zz_J.c 62 (.int 1) rfl rfl rfl rfl ?_
  refine zz_J.n 63 rfl rfl rfl ?_
  obtain ⟨h1, eq1, hR⟩ := hR.pI (x := ((kI t 45 1) + 1)) (by decide) ko_45 (kpi_45_1 _) (Nat.le_of_ble_eq_true rfl) rfl
  refine zz_J.pv 66 rfl eq1 rfl ?_
  clear eq1
  refine zz_J.ret rfl rfl rfl ?_
  exact k hR
def cf_171_56 (N : Nat) (X : Nat → Option zz_C)  (t : cS) : kO := some ((jI t 45 1 ((kI t 45 1) + 1)), .inl none)
theorem cr_171_56 {X : Nat → Option zz_C} {s : mS} {N : Nat} {d : Nat} (hd : 9 ≤ d) {Q : zz_O → zz_H → Prop}  {h : zz_H} {t t' : cS} {o : kY} (hR : kR h t s) (hf : cf_171_56 N X  t = some (t', o)) (k : (∀ h', kR h' t' s → kE o Q h')) : zz_J zp_P zt_tf zt_fd X d zm_171 56 [(0, .ref 45)] [] h Q := by
  unfold cf_171_56 at hf
  cases hf
  exact cb_171_56 hR  (fun {h} hR => k h hR)
def cf_171_45 (N : Nat) (X : Nat → Option zz_C) (x1 : Int32) (t : cS) : kO := if ¬ ((kI t 45 1) < 0 ∨ (kA t 46).1 ≤ (Int32.toNatClampNeg (kI t 45 1))) then (cf_171_56 N X  (jA t 46 (upd (kA t 46).2 (Int32.toNatClampNeg (kI t 45 1)) (vp_nar (zz_ty 2) (Int8.toInt32 (Int32.toInt8 x1)))))) else none
theorem cr_171_45 {X : Nat → Option zz_C} {s : mS} {N : Nat} {d : Nat} (hd : 9 ≤ d) {Q : zz_O → zz_H → Prop} {x1 : Int32} {h : zz_H} {t t' : cS} {o : kY} (hR : kR h t s) (hf : cf_171_45 N X x1 t = some (t', o)) (k : (∀ h', kR h' t' s → kE o Q h')) : zz_J zp_P zt_tf zt_fd X d zm_171 45 [(0, .ref 45), (1, .int x1)] [] h Q := by
  unfold cf_171_45 at hf
  obtain ⟨e0, hf⟩ := ko_if hf
  exact cb_171_45 hR e0 (fun hR => cr_171_56 hd hR hf k)
def cf_171_22 (N : Nat) (X : Nat → Option zz_C) (x1 : Int32) (t : cS) : kO := if ¬ (if 600 < ((2 * (kI t 45 1)) : Int32) then 600 else (2 * (kI t 45 1))) < 0 ∧ (Int32.toNatClampNeg (if 600 < ((2 * (kI t 45 1)) : Int32) then 600 else (2 * (kI t 45 1)))) ≤ 1000000 ∧ (kA t 46).1 ≤ 1000000 ∧ ¬ (if 600 < ((2 * (kI t 45 1)) : Int32) then 600 else (2 * (kI t 45 1))) = Int32.ofNat (kA t 46).1 ∧ (kN t) + 1 < zz_out ∧ zz_bts (kA t 46).2 0 (Nat.min (kA t 46).1 (Int32.toNatClampNeg (if 600 < ((2 * (kI t 45 1)) : Int32) then 600 else (2 * (kI t 45 1))))) = true then (cf_171_45 N X x1 (jMv (jNI t 3 (Int32.toNatClampNeg (if 600 < ((2 * (kI t 45 1)) : Int32) then 600 else (2 * (kI t 45 1)))) (kcp 0 (kA t 46).2 (Nat.min (kA t 46).1 (Int32.toNatClampNeg (if 600 < ((2 * (kI t 45 1)) : Int32) then 600 else (2 * (kI t 45 1))))))) 46)) else none
theorem cr_171_22 {X : Nat → Option zz_C} {s : mS} {N : Nat} {d : Nat} (hd : 9 ≤ d) {Q : zz_O → zz_H → Prop} {x1 : Int32} {h : zz_H} {t t' : cS} {o : kY} (hR : kR h t s) (hf : cf_171_22 N X x1 t = some (t', o)) (k : (∀ h', kR h' t' s → kE o Q h')) : zz_J zp_P zt_tf zt_fd X d zm_171 22 [(0, .ref 45), (1, .int x1)] [] h Q := by
  unfold cf_171_22 at hf
  obtain ⟨e0, hf⟩ := ko_if hf
  obtain ⟨d', rfl⟩ : ∃ d', d = d' + 9 := ⟨d - 9, by omega⟩
  exact cb_171_22 hR e0 (fun hR => cr_171_45 hd hR hf k)
def cf_171_10 (N : Nat) (X : Nat → Option zz_C) (x1 : Int32) (t : cS) : kO := if (kI t 45 1) < (Int32.ofNat (kA t 46).1) then cf_171_45 N X x1 t else cf_171_22 N X x1 t
theorem cr_171_10 {X : Nat → Option zz_C} {s : mS} {N : Nat} {d : Nat} (hd : 9 ≤ d) {Q : zz_O → zz_H → Prop} {x1 : Int32} {h : zz_H} {t t' : cS} {o : kY} (hR : kR h t s) (hf : cf_171_10 N X x1 t = some (t', o)) (k : (∀ h', kR h' t' s → kE o Q h')) : zz_J zp_P zt_tf zt_fd X d zm_171 10 [(0, .ref 45), (1, .int x1)] [] h Q := by
  unfold cf_171_10 at hf
  refine cb_171_10 hR  (fun c {h} hR => ?_) (fun c {h} hR => ?_)
  · rw [if_pos c] at hf
    exact cr_171_45 hd hR hf k
  · rw [if_neg c] at hf
    exact cr_171_22 hd hR hf k
def cf_171_0 (N : Nat) (X : Nat → Option zz_C) (x1 : Int32) (t : cS) : kO := if 600 ≤ (kI t 45 1) then cf_171_56 N X  t else cf_171_10 N X x1 t
theorem cr_171_0 {X : Nat → Option zz_C} {s : mS} {N : Nat} {d : Nat} (hd : 9 ≤ d) {Q : zz_O → zz_H → Prop} {x1 : Int32} {h : zz_H} {t t' : cS} {o : kY} (hR : kR h t s) (hf : cf_171_0 N X x1 t = some (t', o)) (k : (∀ h', kR h' t' s → kE o Q h')) : zz_J zp_P zt_tf zt_fd X d zm_171 0 [(0, .ref 45), (1, .int x1)] [] h Q := by
  unfold cf_171_0 at hf
  refine cb_171_0 hR  (fun c {h} hR => ?_) (fun c {h} hR => ?_)
  · rw [if_pos c] at hf
    exact cr_171_56 hd hR hf k
  · rw [if_neg c] at hf
    exact cr_171_10 hd hR hf k
/-- put -/
def cf_171 (N : Nat) (X : Nat → Option zz_C) (x1 : Int32) (t : cS) : kO := cf_171_0 N X x1 t
theorem cr_171 {X : Nat → Option zz_C} {s : mS} {N : Nat} {d : Nat} (hd : 9 ≤ d) {Q : zz_O → zz_H → Prop} {x1 : Int32} {h : zz_H} {t t' : cS} {o : kY} (hR : kR h t s) (hf : cf_171 N X x1 t = some (t', o)) (k : ∀ h', kR h' t' s → kE o Q h') : zz_J zp_P zt_tf zt_fd X d zm_171 0 [(0, .ref 45), (1, .int x1)] [] h Q := by
  unfold cf_171 at hf
  exact zz_J.weak (cr_171_0 hd hR hf k) rfl ⟨rfl, rfl, trivial⟩
/-! yX4_number (I)V -/
theorem cb_172_0 {X : Nat → Option zz_C} {h : zz_H} {t : cS} {s : mS} {d : Nat} {Q : zz_O → zz_H → Prop} {x1 : Int32} (hR : kR h t s) (k1 : 0 ≤ x1 → (∀ {h : zz_H}, kR h t s → zz_J zp_P zt_tf zt_fd X d zm_172 10 [(0, .ref 45), (1, .int x1)] [] h Q)) (k2 : ¬ 0 ≤ x1 → (∀ {h : zz_H}, kR h t s → zz_J zp_P zt_tf zt_fd X d zm_172 4 [(0, .ref 45), (1, .int x1)] [] h Q)) : zz_J zp_P zt_tf zt_fd X d zm_172 0 [(0, .ref 45), (1, .int x1)] [] h Q := by
  refine zz_J.n 1 rfl rfl rfl ?_
  refine zz_J.b1 10 4 (A := 0 ≤ x1) rfl rfl (by decide) rfl rfl (fun c => ?_) (fun c => ?_)
  · exact zz_J.weak (k1 c hR) rfl ⟨rfl, rfl, trivial⟩
  · exact zz_J.weak (k2 c hR) rfl ⟨rfl, rfl, trivial⟩
theorem cb_172_4 {X : Nat → Option zz_C} {h : zz_H} {t : cS} {s : mS} {d : Nat} {Q : zz_O → zz_H → Prop} {x1 : Int32} (hR : kR h t s) (k : ∀ {h : zz_H}, kR h t s → zz_J zp_P zt_tf zt_fd X d zm_171 0 [(0, .ref 45), (1, .int 45)] [] h (zz_after 4 Q (fun v h' => zz_J zp_P zt_tf zt_fd X (d + 1) zm_172 10 [(0, .ref 45), (1, .int x1)] (v.toList ++ []) h' Q))) : zz_J zp_P zt_tf zt_fd X (d + 1) zm_172 4 [(0, .ref 45), (1, .int x1)] [] h Q := by
  refine zz_J.n 5 rfl rfl rfl ?_
  refine zz_J.c 7 (.int 45) rfl rfl rfl rfl ?_
  refine zz_J.cv 10 (as := []) rfl rfl (hR.clO ko_45 (by decide) (by decide)) (by decide) (Nat.le_of_ble_eq_true rfl) (Nat.le_of_ble_eq_true rfl) rfl (Nat.le_of_ble_eq_true rfl) rfl ?_
  refine zz_J.mono (k hR) ?_
  intro o h' hE
  cases o with
  | inl v => exact zz_J.weak hE rfl ⟨rfl, rfl, trivial⟩
  | inr q => exact hE
theorem cb_172_10 {X : Nat → Option zz_C} {h : zz_H} {t : cS} {s : mS} {d : Nat} {Q : zz_O → zz_H → Prop} {x1 : Int32} (hR : kR h t s) (k : ∀ {h : zz_H}, kR h t s → zz_J zp_P zt_tf zt_fd X (d + 1) zm_172 19 [(0, .ref 45), (2, .long (if 0 < (Int32.toInt64 x1) then (Int32.toInt64 x1) else -(Int32.toInt64 x1))), (4, .int 0)] [] h Q) : zz_J zp_P zt_tf zt_fd X (d + 1) zm_172 10 [(0, .ref 45), (1, .int x1)] [] h Q := by
  refine zz_J.n 11 rfl rfl rfl ?_
  refine zz_J.n 12 rfl rfl rfl ?_
  refine zz_J.spec 15 rfl rfl (by decide) rfl rfl rfl ?_
  refine zz_J.n 16 rfl rfl rfl ?_
  refine zz_J.c 17 (.int 0) rfl rfl rfl rfl ?_
  refine zz_J.n 19 rfl rfl rfl ?_
  exact zz_J.weak (k hR) rfl ⟨rfl, rfl, rfl, trivial⟩
theorem cb_172_19 {X : Nat → Option zz_C} {h : zz_H} {t : cS} {s : mS} {d : Nat} {Q : zz_O → zz_H → Prop} {x2 : Int64} {x4 : Int32} (hR : kR h t s) (e0 : ¬ (10 : Int64) = 0) (e1 : ¬ (x4 < 0 ∨ (kA t 47).1 ≤ (Int32.toNatClampNeg x4))) (k1 : (lg_cmp (x2 / 10) 0) ≤ 0 → (∀ {h : zz_H}, kR h (jA t 47 (upd (kA t 47).2 (Int32.toNatClampNeg x4) (vp_nar (zz_ty 2) (Int8.toInt32 (Int32.toInt8 (Int64.toInt32 (48 + (x2 - x2 / 10 * 10)))))))) s → zz_J zp_P zt_tf zt_fd X d zm_172 59 [(0, .ref 45), (4, .int (x4 + 1))] [] h Q)) (k2 : ¬ (lg_cmp (x2 / 10) 0) ≤ 0 → (∀ {h : zz_H}, kR h (jA t 47 (upd (kA t 47).2 (Int32.toNatClampNeg x4) (vp_nar (zz_ty 2) (Int8.toInt32 (Int32.toInt8 (Int64.toInt32 (48 + (x2 - x2 / 10 * 10)))))))) s → zz_J zp_P zt_tf zt_fd X d zm_172 52 [(0, .ref 45), (2, .long (x2 / 10)), (4, .int (x4 + 1))] [] h Q)) : zz_J zp_P zt_tf zt_fd X d zm_172 19 [(0, .ref 45), (2, .long x2), (4, .int x4)] [] h Q := by
  refine zz_J.n 20 rfl rfl rfl ?_
  refine zz_J.g 23 rfl (hR.gv (v := .ref (kD t 47)) ko_45 (by decide) rfl) rfl ?_
  refine zz_J.n 25 rfl rfl rfl ?_
  refine zz_J.c 28 (.long 48) rfl rfl rfl rfl ?_
  refine zz_J.n 29 rfl rfl rfl ?_
  refine zz_J.c 32 (.long 10) rfl rfl rfl rfl ?_
  refine zz_J.ldr 33 rfl e0 rfl ?_
  refine zz_J.n 34 rfl rfl rfl ?_
  refine zz_J.n 35 rfl rfl rfl ?_
  refine zz_J.n 36 rfl rfl rfl ?_
  obtain ⟨h1, eq1, hR⟩ := hR.sb (x := (Int8.toInt32 (Int32.toInt8 (Int64.toInt32 (48 + (x2 - x2 / 10 * 10)))))) ka_47 rfl (by decide) e1
  refine zz_J.sb 37 rfl eq1 rfl ?_
  clear eq1
  refine zz_J.n 38 rfl rfl rfl ?_
  refine zz_J.c 41 (.long 10) rfl rfl rfl rfl ?_
  refine zz_J.ldv 42 rfl e0 rfl ?_
  refine zz_J.n 43 rfl rfl rfl ?_
  refine zz_J.n 46 rfl rfl rfl ?_
  refine zz_J.n 47 rfl rfl rfl ?_
  refine zz_J.c 48 (.long 0) rfl rfl rfl rfl ?_
  refine zz_J.n 49 rfl rfl rfl ?_
  refine zz_J.b1 59 52 (A := (lg_cmp (x2 / 10) 0) ≤ 0) rfl rfl (by decide) rfl rfl (fun c => ?_) (fun c => ?_)
  · exact zz_J.weak (k1 c hR) rfl ⟨rfl, rfl, trivial⟩
  · exact zz_J.weak (k2 c hR) rfl ⟨rfl, rfl, rfl, trivial⟩
theorem cb_172_52 {X : Nat → Option zz_C} {h : zz_H} {t : cS} {s : mS} {d : Nat} {Q : zz_O → zz_H → Prop} {x2 : Int64} {x4 : Int32} (hR : kR h t s) (k1 : x4 < 10 → (∀ {h : zz_H}, kR h t s → zz_J zp_P zt_tf zt_fd X d zm_172 19 [(0, .ref 45), (2, .long x2), (4, .int x4)] [] h Q)) (k2 : ¬ x4 < 10 → (∀ {h : zz_H}, kR h t s → zz_J zp_P zt_tf zt_fd X d zm_172 59 [(0, .ref 45), (4, .int x4)] [] h Q)) : zz_J zp_P zt_tf zt_fd X d zm_172 52 [(0, .ref 45), (2, .long x2), (4, .int x4)] [] h Q := by
  refine zz_J.n 54 rfl rfl rfl ?_
  refine zz_J.c 56 (.int 10) rfl rfl rfl rfl ?_
  refine zz_J.b2 19 59 (A := x4 < 10) rfl rfl (by decide) rfl rfl (fun c => ?_) (fun c => ?_)
  · exact zz_J.weak (k1 c hR) rfl ⟨rfl, rfl, rfl, trivial⟩
  · exact zz_J.weak (k2 c hR) rfl ⟨rfl, rfl, trivial⟩
theorem cb_172_59 {X : Nat → Option zz_C} {h : zz_H} {t : cS} {s : mS} {d : Nat} {Q : zz_O → zz_H → Prop} {x4 : Int32} (hR : kR h t s) (k : ∀ {h : zz_H}, kR h t s → zz_J zp_P zt_tf zt_fd X d zm_172 65 [(0, .ref 45), (5, .int (x4 - 1))] [] h Q) : zz_J zp_P zt_tf zt_fd X d zm_172 59 [(0, .ref 45), (4, .int x4)] [] h Q := by
  refine zz_J.n 61 rfl rfl rfl ?_
  refine zz_J.c 62 (.int 1) rfl rfl rfl rfl ?_
  refine zz_J.n 63 rfl rfl rfl ?_
  refine zz_J.n 65 rfl rfl rfl ?_
  exact zz_J.weak (k hR) rfl ⟨rfl, rfl, trivial⟩
theorem cb_172_65 {X : Nat → Option zz_C} {h : zz_H} {t : cS} {s : mS} {d : Nat} {Q : zz_O → zz_H → Prop} {x5 : Int32} (hR : kR h t s) (k1 : x5 < 0 → (∀ {h : zz_H}, kR h t s → zz_J zp_P zt_tf zt_fd X d zm_172 87 [] [] h Q)) (k2 : ¬ x5 < 0 → (∀ {h : zz_H}, kR h t s → zz_J zp_P zt_tf zt_fd X d zm_172 70 [(0, .ref 45), (5, .int x5)] [] h Q)) : zz_J zp_P zt_tf zt_fd X d zm_172 65 [(0, .ref 45), (5, .int x5)] [] h Q := by
  refine zz_J.n 67 rfl rfl rfl ?_
  refine zz_J.b1 87 70 (A := x5 < 0) rfl rfl (by decide) rfl rfl (fun c => ?_) (fun c => ?_)
  · exact zz_J.weak (k1 c hR) rfl trivial
  · exact zz_J.weak (k2 c hR) rfl ⟨rfl, rfl, trivial⟩
theorem cb_172_70 {X : Nat → Option zz_C} {h : zz_H} {t : cS} {s : mS} {d : Nat} {Q : zz_O → zz_H → Prop} {x5 : Int32} (hR : kR h t s) (e0 : ¬ (x5 < 0 ∨ (kA t 47).1 ≤ (Int32.toNatClampNeg x5))) (k : ∀ {h : zz_H}, kR h t s → zz_J zp_P zt_tf zt_fd X d zm_171 0 [(0, .ref 45), (1, .int ((kA t 47).2 (Int32.toNatClampNeg x5)))] [] h (zz_after 4 Q (fun v h' => zz_J zp_P zt_tf zt_fd X (d + 1) zm_172 81 [(0, .ref 45), (5, .int x5)] (v.toList ++ []) h' Q))) : zz_J zp_P zt_tf zt_fd X (d + 1) zm_172 70 [(0, .ref 45), (5, .int x5)] [] h Q := by
  refine zz_J.n 71 rfl rfl rfl ?_
  refine zz_J.n 72 rfl rfl rfl ?_
  refine zz_J.g 75 rfl (hR.gv (v := .ref (kD t 47)) ko_45 (by decide) rfl) rfl ?_
  refine zz_J.n 77 rfl rfl rfl ?_
  refine zz_J.ab 78 rfl (hR.ab (w := ((kA t 47).2 (Int32.toNatClampNeg x5))) ka_47 rfl (by decide) e0 rfl) rfl ?_
  refine zz_J.cv 81 (as := []) rfl rfl (hR.clO ko_45 (by decide) (by decide)) (by decide) (Nat.le_of_ble_eq_true rfl) (Nat.le_of_ble_eq_true rfl) rfl (Nat.le_of_ble_eq_true rfl) rfl ?_
  refine zz_J.mono (k hR) ?_
  intro o h' hE
  cases o with
  | inl v => exact zz_J.weak hE rfl ⟨rfl, rfl, trivial⟩
  | inr q => exact hE
theorem cb_172_81 {X : Nat → Option zz_C} {h : zz_H} {t : cS} {s : mS} {d : Nat} {Q : zz_O → zz_H → Prop} {x5 : Int32} (hR : kR h t s) (k : ∀ {h : zz_H}, kR h t s → zz_J zp_P zt_tf zt_fd X d zm_172 65 [(0, .ref 45), (5, .int (x5 + (-1)))] [] h Q) : zz_J zp_P zt_tf zt_fd X d zm_172 81 [(0, .ref 45), (5, .int x5)] [] h Q := by
  refine zz_J.n 84 rfl rfl rfl ?_
  refine zz_J.n 65 rfl rfl rfl ?_
  exact zz_J.weak (k hR) rfl ⟨rfl, rfl, trivial⟩
theorem cb_172_87 {X : Nat → Option zz_C} {h : zz_H} {t : cS} {s : mS} {d : Nat} {Q : zz_O → zz_H → Prop}  (hR : kR h t s) (k : ∀ {h : zz_H}, kR h t s → Q (.inl none) h) : zz_J zp_P zt_tf zt_fd X d zm_172 87 [] [] h Q := by
  refine zz_J.ret rfl rfl rfl ?_
  exact k hR
def cf_172_87 (N : Nat) (X : Nat → Option zz_C)  (t : cS) : kO := some (t, .inl none)
theorem cr_172_87 {X : Nat → Option zz_C} {s : mS} {N : Nat} {d : Nat} (hd : 10 ≤ d) {Q : zz_O → zz_H → Prop}  {h : zz_H} {t t' : cS} {o : kY} (hR : kR h t s) (hf : cf_172_87 N X  t = some (t', o)) (k : (∀ h', kR h' t' s → kE o Q h')) : zz_J zp_P zt_tf zt_fd X d zm_172 87 [] [] h Q := by
  unfold cf_172_87 at hf
  cases hf
  exact cb_172_87 hR  (fun {h} hR => k h hR)
def cf_172_81 (N : Nat) (X : Nat → Option zz_C) (rc : Nat → Int32 → cS → kO) (x5 : Int32) (t : cS) : kO := rc 0 (x5 + (-1)) t
theorem cr_172_81 {X : Nat → Option zz_C} {s : mS} {N : Nat} {d : Nat} (hd : 10 ≤ d) {rc : Nat → Int32 → cS → kO} (hrc0 : ∀ {Q : zz_O → zz_H → Prop} {x5 : Int32} {h : zz_H} {t t' : cS} {o : kY}, kR h t s → rc 0 x5 t = some (t', o) → (∀ h', kR h' t' s → kE o Q h') → zz_J zp_P zt_tf zt_fd X d zm_172 65 [(0, .ref 45), (5, .int x5)] [] h Q) {Q : zz_O → zz_H → Prop} {x5 : Int32} {h : zz_H} {t t' : cS} {o : kY} (hR : kR h t s) (hf : cf_172_81 N X rc x5 t = some (t', o)) (k : (∀ h', kR h' t' s → kE o Q h')) : zz_J zp_P zt_tf zt_fd X d zm_172 81 [(0, .ref 45), (5, .int x5)] [] h Q := by
  unfold cf_172_81 at hf
  exact cb_172_81 hR  (fun hR => hrc0 hR hf k)
def cf_172_70 (N : Nat) (X : Nat → Option zz_C) (rc : Nat → Int32 → cS → kO) (x5 : Int32) (t : cS) : kO := if ¬ (x5 < 0 ∨ (kA t 47).1 ≤ (Int32.toNatClampNeg x5)) then (ko_call 4 (cf_171 N X ((kA t 47).2 (Int32.toNatClampNeg x5)) t) (fun g1 v1 => co_v v1 (cf_172_81 N X rc x5 g1))) else none
theorem cr_172_70 {X : Nat → Option zz_C} {s : mS} {N : Nat} {d : Nat} (hd : 10 ≤ d) {rc : Nat → Int32 → cS → kO} (hrc0 : ∀ {Q : zz_O → zz_H → Prop} {x5 : Int32} {h : zz_H} {t t' : cS} {o : kY}, kR h t s → rc 0 x5 t = some (t', o) → (∀ h', kR h' t' s → kE o Q h') → zz_J zp_P zt_tf zt_fd X d zm_172 65 [(0, .ref 45), (5, .int x5)] [] h Q) {Q : zz_O → zz_H → Prop} {x5 : Int32} {h : zz_H} {t t' : cS} {o : kY} (hR : kR h t s) (hf : cf_172_70 N X rc x5 t = some (t', o)) (k : (∀ h', kR h' t' s → kE o Q h')) : zz_J zp_P zt_tf zt_fd X d zm_172 70 [(0, .ref 45), (5, .int x5)] [] h Q := by
  unfold cf_172_70 at hf
  obtain ⟨e0, hf⟩ := ko_if hf
  obtain ⟨d', rfl⟩ : ∃ d', d = d' + 1 := ⟨d - 1, by omega⟩
  refine cb_172_70 hR e0 (fun {h} hR => ?_)
  rcases ko_call_ok hf with ⟨g1, v1, er, hf⟩ | ⟨g1, er, hq⟩
  · obtain ⟨hv, hf2⟩ := co_v_ok hf
    clear hf
    have hf := hf2
    clear hf2
    subst hv
    refine cr_171 (by omega) hR er (fun h hR => ?_)
    exact cr_172_81 hd hrc0 hR hf k
  · refine cr_171 (by omega) hR er (fun h hR => ?_)
    exact ko_thrown hq hR k
def cf_172_65 (N : Nat) (X : Nat → Option zz_C) (rc : Nat → Int32 → cS → kO) (x5 : Int32) (t : cS) : kO := if x5 < 0 then cf_172_87 N X  t else cf_172_70 N X rc x5 t
theorem cr_172_65 {X : Nat → Option zz_C} {s : mS} {N : Nat} {d : Nat} (hd : 10 ≤ d) {rc : Nat → Int32 → cS → kO} (hrc0 : ∀ {Q : zz_O → zz_H → Prop} {x5 : Int32} {h : zz_H} {t t' : cS} {o : kY}, kR h t s → rc 0 x5 t = some (t', o) → (∀ h', kR h' t' s → kE o Q h') → zz_J zp_P zt_tf zt_fd X d zm_172 65 [(0, .ref 45), (5, .int x5)] [] h Q) {Q : zz_O → zz_H → Prop} {x5 : Int32} {h : zz_H} {t t' : cS} {o : kY} (hR : kR h t s) (hf : cf_172_65 N X rc x5 t = some (t', o)) (k : (∀ h', kR h' t' s → kE o Q h')) : zz_J zp_P zt_tf zt_fd X d zm_172 65 [(0, .ref 45), (5, .int x5)] [] h Q := by
  unfold cf_172_65 at hf
  refine cb_172_65 hR  (fun c {h} hR => ?_) (fun c {h} hR => ?_)
  · rw [if_pos c] at hf
    exact cr_172_87 hd hR hf k
  · rw [if_neg c] at hf
    exact cr_172_70 hd hrc0 hR hf k
def cf_172_L1 (N : Nat) (X : Nat → Option zz_C) : Nat → Nat → Int32 → cS → kO
  | 0, _, _, _ => none
  | n + 1, l, x5, t => if l = 0 then cf_172_65 N X (cf_172_L1 N X n) x5 t else none
theorem cr_172_L1 {X : Nat → Option zz_C} {s : mS} {N : Nat} {d : Nat} (hd : 10 ≤ d) : ∀ n : Nat, (∀ {Q : zz_O → zz_H → Prop} {x5 : Int32} {h : zz_H} {t t' : cS} {o : kY}, kR h t s → cf_172_L1 N X n 0 x5 t = some (t', o) → (∀ h', kR h' t' s → kE o Q h') → zz_J zp_P zt_tf zt_fd X d zm_172 65 [(0, .ref 45), (5, .int x5)] [] h Q) := by
  intro n
  induction n with
  | zero => exact (fun _ hf _ => by cases hf)
  | succ n ih =>
    have h0 := @ih
    intro Q _ h t t' o hR hf k
    unfold cf_172_L1 at hf
    rw [if_pos rfl] at hf
    exact cr_172_65 hd h0 hR hf k
def cf_172_59 (N : Nat) (X : Nat → Option zz_C) (x4 : Int32) (t : cS) : kO := cf_172_L1 N X N 0 (x4 - 1) t
theorem cr_172_59 {X : Nat → Option zz_C} {s : mS} {N : Nat} {d : Nat} (hd : 10 ≤ d) {Q : zz_O → zz_H → Prop} {x4 : Int32} {h : zz_H} {t t' : cS} {o : kY} (hR : kR h t s) (hf : cf_172_59 N X x4 t = some (t', o)) (k : (∀ h', kR h' t' s → kE o Q h')) : zz_J zp_P zt_tf zt_fd X d zm_172 59 [(0, .ref 45), (4, .int x4)] [] h Q := by
  unfold cf_172_59 at hf
  exact cb_172_59 hR  (fun hR => cr_172_L1 hd N hR hf k)
def cf_172_52 (N : Nat) (X : Nat → Option zz_C) (rc : Nat → Int64 → Int32 → cS → kO) (x2 : Int64) (x4 : Int32) (t : cS) : kO := if x4 < 10 then rc 0 x2 x4 t else cf_172_59 N X x4 t
theorem cr_172_52 {X : Nat → Option zz_C} {s : mS} {N : Nat} {d : Nat} (hd : 10 ≤ d) {rc : Nat → Int64 → Int32 → cS → kO} (hrc0 : ∀ {Q : zz_O → zz_H → Prop} {x2 : Int64} {x4 : Int32} {h : zz_H} {t t' : cS} {o : kY}, kR h t s → rc 0 x2 x4 t = some (t', o) → (∀ h', kR h' t' s → kE o Q h') → zz_J zp_P zt_tf zt_fd X d zm_172 19 [(0, .ref 45), (2, .long x2), (4, .int x4)] [] h Q) {Q : zz_O → zz_H → Prop} {x2 : Int64} {x4 : Int32} {h : zz_H} {t t' : cS} {o : kY} (hR : kR h t s) (hf : cf_172_52 N X rc x2 x4 t = some (t', o)) (k : (∀ h', kR h' t' s → kE o Q h')) : zz_J zp_P zt_tf zt_fd X d zm_172 52 [(0, .ref 45), (2, .long x2), (4, .int x4)] [] h Q := by
  unfold cf_172_52 at hf
  refine cb_172_52 hR  (fun c {h} hR => ?_) (fun c {h} hR => ?_)
  · rw [if_pos c] at hf
    exact hrc0 hR hf k
  · rw [if_neg c] at hf
    exact cr_172_59 hd hR hf k
def cf_172_19 (N : Nat) (X : Nat → Option zz_C) (rc : Nat → Int64 → Int32 → cS → kO) (x2 : Int64) (x4 : Int32) (t : cS) : kO := if ¬ (10 : Int64) = 0 then (if ¬ (x4 < 0 ∨ (kA t 47).1 ≤ (Int32.toNatClampNeg x4)) then (if (lg_cmp (x2 / 10) 0) ≤ 0 then cf_172_59 N X (x4 + 1) (jA t 47 (upd (kA t 47).2 (Int32.toNatClampNeg x4) (vp_nar (zz_ty 2) (Int8.toInt32 (Int32.toInt8 (Int64.toInt32 (48 + (x2 - x2 / 10 * 10)))))))) else cf_172_52 N X rc (x2 / 10) (x4 + 1) (jA t 47 (upd (kA t 47).2 (Int32.toNatClampNeg x4) (vp_nar (zz_ty 2) (Int8.toInt32 (Int32.toInt8 (Int64.toInt32 (48 + (x2 - x2 / 10 * 10))))))))) else none) else none
theorem cr_172_19 {X : Nat → Option zz_C} {s : mS} {N : Nat} {d : Nat} (hd : 10 ≤ d) {rc : Nat → Int64 → Int32 → cS → kO} (hrc0 : ∀ {Q : zz_O → zz_H → Prop} {x2 : Int64} {x4 : Int32} {h : zz_H} {t t' : cS} {o : kY}, kR h t s → rc 0 x2 x4 t = some (t', o) → (∀ h', kR h' t' s → kE o Q h') → zz_J zp_P zt_tf zt_fd X d zm_172 19 [(0, .ref 45), (2, .long x2), (4, .int x4)] [] h Q) {Q : zz_O → zz_H → Prop} {x2 : Int64} {x4 : Int32} {h : zz_H} {t t' : cS} {o : kY} (hR : kR h t s) (hf : cf_172_19 N X rc x2 x4 t = some (t', o)) (k : (∀ h', kR h' t' s → kE o Q h')) : zz_J zp_P zt_tf zt_fd X d zm_172 19 [(0, .ref 45), (2, .long x2), (4, .int x4)] [] h Q := by
  unfold cf_172_19 at hf
  obtain ⟨e0, hf⟩ := ko_if hf
  obtain ⟨e1, hf⟩ := ko_if hf
  refine cb_172_19 hR e0 e1 (fun c {h} hR => ?_) (fun c {h} hR => ?_)
  · rw [if_pos c] at hf
    exact cr_172_59 hd hR hf k
  · rw [if_neg c] at hf
    exact cr_172_52 hd hrc0 hR hf k
def cf_172_L3 (N : Nat) (X : Nat → Option zz_C) : Nat → Nat → Int64 → Int32 → cS → kO
  | 0, _, _, _, _ => none
  | n + 1, l, x2, x4, t => if l = 0 then cf_172_19 N X (cf_172_L3 N X n) x2 x4 t else none
theorem cr_172_L3 {X : Nat → Option zz_C} {s : mS} {N : Nat} {d : Nat} (hd : 10 ≤ d) : ∀ n : Nat, (∀ {Q : zz_O → zz_H → Prop} {x2 : Int64} {x4 : Int32} {h : zz_H} {t t' : cS} {o : kY}, kR h t s → cf_172_L3 N X n 0 x2 x4 t = some (t', o) → (∀ h', kR h' t' s → kE o Q h') → zz_J zp_P zt_tf zt_fd X d zm_172 19 [(0, .ref 45), (2, .long x2), (4, .int x4)] [] h Q) := by
  intro n
  induction n with
  | zero => exact (fun _ hf _ => by cases hf)
  | succ n ih =>
    have h0 := @ih
    intro Q _ _ h t t' o hR hf k
    unfold cf_172_L3 at hf
    rw [if_pos rfl] at hf
    exact cr_172_19 hd h0 hR hf k
def cf_172_10 (N : Nat) (X : Nat → Option zz_C) (x1 : Int32) (t : cS) : kO := cf_172_L3 N X N 0 (if 0 < (Int32.toInt64 x1) then (Int32.toInt64 x1) else -(Int32.toInt64 x1)) 0 t
theorem cr_172_10 {X : Nat → Option zz_C} {s : mS} {N : Nat} {d : Nat} (hd : 10 ≤ d) {Q : zz_O → zz_H → Prop} {x1 : Int32} {h : zz_H} {t t' : cS} {o : kY} (hR : kR h t s) (hf : cf_172_10 N X x1 t = some (t', o)) (k : (∀ h', kR h' t' s → kE o Q h')) : zz_J zp_P zt_tf zt_fd X d zm_172 10 [(0, .ref 45), (1, .int x1)] [] h Q := by
  unfold cf_172_10 at hf
  obtain ⟨d', rfl⟩ : ∃ d', d = d' + 1 := ⟨d - 1, by omega⟩
  exact cb_172_10 hR  (fun hR => cr_172_L3 hd N hR hf k)
def cf_172_4 (N : Nat) (X : Nat → Option zz_C) (x1 : Int32) (t : cS) : kO := ko_call 4 (cf_171 N X 45 t) (fun g1 v1 => co_v v1 (cf_172_10 N X x1 g1))
theorem cr_172_4 {X : Nat → Option zz_C} {s : mS} {N : Nat} {d : Nat} (hd : 10 ≤ d) {Q : zz_O → zz_H → Prop} {x1 : Int32} {h : zz_H} {t t' : cS} {o : kY} (hR : kR h t s) (hf : cf_172_4 N X x1 t = some (t', o)) (k : (∀ h', kR h' t' s → kE o Q h')) : zz_J zp_P zt_tf zt_fd X d zm_172 4 [(0, .ref 45), (1, .int x1)] [] h Q := by
  unfold cf_172_4 at hf
  obtain ⟨d', rfl⟩ : ∃ d', d = d' + 1 := ⟨d - 1, by omega⟩
  refine cb_172_4 hR  (fun {h} hR => ?_)
  rcases ko_call_ok hf with ⟨g1, v1, er, hf⟩ | ⟨g1, er, hq⟩
  · obtain ⟨hv, hf2⟩ := co_v_ok hf
    clear hf
    have hf := hf2
    clear hf2
    subst hv
    refine cr_171 (by omega) hR er (fun h hR => ?_)
    exact cr_172_10 hd hR hf k
  · refine cr_171 (by omega) hR er (fun h hR => ?_)
    exact ko_thrown hq hR k
def cf_172_0 (N : Nat) (X : Nat → Option zz_C) (x1 : Int32) (t : cS) : kO := if 0 ≤ x1 then cf_172_10 N X x1 t else cf_172_4 N X x1 t
theorem cr_172_0 {X : Nat → Option zz_C} {s : mS} {N : Nat} {d : Nat} (hd : 10 ≤ d) {Q : zz_O → zz_H → Prop} {x1 : Int32} {h : zz_H} {t t' : cS} {o : kY} (hR : kR h t s) (hf : cf_172_0 N X x1 t = some (t', o)) (k : (∀ h', kR h' t' s → kE o Q h')) : zz_J zp_P zt_tf zt_fd X d zm_172 0 [(0, .ref 45), (1, .int x1)] [] h Q := by
  unfold cf_172_0 at hf
  refine cb_172_0 hR  (fun c {h} hR => ?_) (fun c {h} hR => ?_)
  · rw [if_pos c] at hf
    exact cr_172_10 hd hR hf k
  · rw [if_neg c] at hf
    exact cr_172_4 hd hR hf k
/-- number -/
def cf_172 (N : Nat) (X : Nat → Option zz_C) (x1 : Int32) (t : cS) : kO := cf_172_0 N X x1 t
theorem cr_172 {X : Nat → Option zz_C} {s : mS} {N : Nat} {d : Nat} (hd : 10 ≤ d) {Q : zz_O → zz_H → Prop} {x1 : Int32} {h : zz_H} {t t' : cS} {o : kY} (hR : kR h t s) (hf : cf_172 N X x1 t = some (t', o)) (k : ∀ h', kR h' t' s → kE o Q h') : zz_J zp_P zt_tf zt_fd X d zm_172 0 [(0, .ref 45), (1, .int x1)] [] h Q := by
  unfold cf_172 at hf
  exact zz_J.weak (cr_172_0 hd hR hf k) rfl ⟨rfl, rfl, trivial⟩
/-! a group that calls itself: form -/
def cK2 (X : Nat → Option zz_C) (s : mS) (D : Nat) (rk : Nat → List Value → cS → kO) : Prop := (∀ {d : Nat} (_ : D ≤ d) {Q : zz_O → zz_H → Prop} {x2 : Int64} {x4 : Int32} {h : zz_H} {t t' : cS} {o : kY} (_ : kR h t s) (_ : rk 170 [.long x2, .int x4] t = some (t', o)) (_ : ∀ h', kR h' t' s → kE o Q h'), zz_J zp_P zt_tf zt_fd X d zm_170 0 [(0, .ref 45), (1, .ref 42), (2, .long x2), (4, .int x4)] [] h Q)
/-! yX4_form -/
theorem cb_170_0 {X : Nat → Option zz_C} {h : zz_H} {t : cS} {s : mS} {d : Nat} {Q : zz_O → zz_H → Prop} {x2 : Int64} {x4 : Int32} (hR : kR h t s) (k : ∀ {h : zz_H}, kR h t s → zz_J zp_P zt_tf zt_fd X d zm_255 0 [(0, .long x2)] [] h (zz_after 1000 Q (fun v h' => zz_J zp_P zt_tf zt_fd X (d + 1) zm_170 4 [(0, .ref 45), (1, .ref 42), (2, .long x2), (4, .int x4)] (v.toList ++ []) h' Q))) : zz_J zp_P zt_tf zt_fd X (d + 1) zm_170 0 [(0, .ref 45), (1, .ref 42), (2, .long x2), (4, .int x4)] [] h Q := by
  refine zz_J.n 1 rfl rfl rfl ?_
  refine zz_J.cl (M' := zm_255) 4 rfl rfl (by decide) rfl rfl ⟨rfl, Nat.le_of_ble_eq_true rfl⟩ rfl ?_
  refine zz_J.mono (k hR) ?_
  intro o h' hE
  cases o with
  | inl v => exact zz_J.weak hE rfl ⟨rfl, rfl, rfl, rfl, trivial⟩
  | inr q => exact hE
theorem cb_170_4 {X : Nat → Option zz_C} {h : zz_H} {t : cS} {s : mS} {d : Nat} {Q : zz_O → zz_H → Prop} {x2 : Int64} {x4 : Int32} {y0 : Int32} (hR : kR h t s) (k1 : y0 = 0 → (∀ {h : zz_H}, kR h t s → zz_J zp_P zt_tf zt_fd X d zm_170 17 [(0, .ref 45), (2, .long x2)] [] h Q)) (k2 : ¬ y0 = 0 → (∀ {h : zz_H}, kR h t s → zz_J zp_P zt_tf zt_fd X d zm_170 11 [(0, .ref 45), (1, .ref 42), (2, .long x2), (4, .int x4), (5, .int y0)] [] h Q)) : zz_J zp_P zt_tf zt_fd X d zm_170 4 [(0, .ref 45), (1, .ref 42), (2, .long x2), (4, .int x4)] [.int y0] h Q := by
  refine zz_J.n 6 rfl rfl rfl ?_
  refine zz_J.n 8 rfl rfl rfl ?_
  refine zz_J.b1 17 11 (A := y0 = 0) rfl rfl (by decide) rfl rfl (fun c => ?_) (fun c => ?_)
  · exact zz_J.weak (k1 c hR) rfl ⟨rfl, rfl, trivial⟩
  · exact zz_J.weak (k2 c hR) rfl ⟨rfl, rfl, rfl, rfl, rfl, trivial⟩
theorem cb_170_11 {X : Nat → Option zz_C} {h : zz_H} {t : cS} {s : mS} {d : Nat} {Q : zz_O → zz_H → Prop} {x2 : Int64} {x4 : Int32} {x5 : Int32} (hR : kR h t s) (k1 : x4 ≤ 5 → (∀ {h : zz_H}, kR h t s → zz_J zp_P zt_tf zt_fd X d zm_170 26 [(0, .ref 45), (1, .ref 42), (2, .long x2), (4, .int x4), (5, .int x5)] [] h Q)) (k2 : ¬ x4 ≤ 5 → (∀ {h : zz_H}, kR h t s → zz_J zp_P zt_tf zt_fd X d zm_170 17 [(0, .ref 45), (2, .long x2)] [] h Q)) : zz_J zp_P zt_tf zt_fd X d zm_170 11 [(0, .ref 45), (1, .ref 42), (2, .long x2), (4, .int x4), (5, .int x5)] [] h Q := by
  refine zz_J.n 13 rfl rfl rfl ?_
  refine zz_J.c 14 (.int 5) rfl rfl rfl rfl ?_
  refine zz_J.b2 26 17 (A := x4 ≤ 5) rfl rfl (by decide) rfl rfl (fun c => ?_) (fun c => ?_)
  · exact zz_J.weak (k1 c hR) rfl ⟨rfl, rfl, rfl, rfl, rfl, trivial⟩
  · exact zz_J.weak (k2 c hR) rfl ⟨rfl, rfl, trivial⟩
theorem cb_170_17 {X : Nat → Option zz_C} {h : zz_H} {t : cS} {s : mS} {d : Nat} {Q : zz_O → zz_H → Prop} {x2 : Int64} (hR : kR h t s) (k : ∀ {h : zz_H}, kR h t s → zz_J zp_P zt_tf zt_fd X d zm_256 0 [(0, .long x2)] [] h (zz_after 1000 Q (fun v h' => zz_J zp_P zt_tf zt_fd X (d + 1) zm_170 22 [] (v.toList ++ [.ref 45]) h' Q))) : zz_J zp_P zt_tf zt_fd X (d + 1) zm_170 17 [(0, .ref 45), (2, .long x2)] [] h Q := by
  refine zz_J.n 18 rfl rfl rfl ?_
  refine zz_J.n 19 rfl rfl rfl ?_
  refine zz_J.cl (M' := zm_256) 22 rfl rfl (by decide) rfl rfl ⟨rfl, Nat.le_of_ble_eq_true rfl⟩ rfl ?_
  refine zz_J.mono (k hR) ?_
  intro o h' hE
  cases o with
  | inl v => exact zz_J.weak hE rfl trivial
  | inr q => exact hE
theorem cb_170_22 {X : Nat → Option zz_C} {h : zz_H} {t : cS} {s : mS} {d : Nat} {Q : zz_O → zz_H → Prop} {y1 : Int32} (hR : kR h t s) (k : ∀ {h : zz_H}, kR h t s → zz_J zp_P zt_tf zt_fd X d zm_172 0 [(0, .ref 45), (1, .int y1)] [] h (zz_after 4 Q (fun v h' => zz_J zp_P zt_tf zt_fd X (d + 1) zm_170 25 [] (v.toList ++ []) h' Q))) : zz_J zp_P zt_tf zt_fd X (d + 1) zm_170 22 [] [.int y1, .ref 45] h Q := by
  refine zz_J.cv 25 (as := []) rfl rfl (hR.clO ko_45 (by decide) (by decide)) (by decide) (Nat.le_of_ble_eq_true rfl) (Nat.le_of_ble_eq_true rfl) rfl (Nat.le_of_ble_eq_true rfl) rfl ?_
  refine zz_J.mono (k hR) ?_
  intro o h' hE
  cases o with
  | inl v => exact zz_J.weak hE rfl trivial
  | inr q => exact hE
theorem cb_170_25 {X : Nat → Option zz_C} {h : zz_H} {t : cS} {s : mS} {d : Nat} {Q : zz_O → zz_H → Prop}  (hR : kR h t s) (k : ∀ {h : zz_H}, kR h t s → Q (.inl none) h) : zz_J zp_P zt_tf zt_fd X d zm_170 25 [] [] h Q := by
  refine zz_J.ret rfl rfl rfl ?_
  exact k hR
theorem cb_170_26 {X : Nat → Option zz_C} {h : zz_H} {t : cS} {s : mS} {d : Nat} {Q : zz_O → zz_H → Prop} {x2 : Int64} {x4 : Int32} {x5 : Int32} (hR : kR h t s) (k : ∀ {h : zz_H}, kR h t s → zz_J zp_P zt_tf zt_fd X d zm_128 0 [(0, .ref 42), (1, .long x2)] [] h (zz_after 2 Q (fun v h' => zz_J zp_P zt_tf zt_fd X (d + 1) zm_170 31 [(0, .ref 45), (1, .ref 42), (2, .long x2), (4, .int x4), (5, .int x5)] (v.toList ++ []) h' Q))) : zz_J zp_P zt_tf zt_fd X (d + 1) zm_170 26 [(0, .ref 45), (1, .ref 42), (2, .long x2), (4, .int x4), (5, .int x5)] [] h Q := by
  refine zz_J.n 27 rfl rfl rfl ?_
  refine zz_J.n 28 rfl rfl rfl ?_
  refine zz_J.cv 31 (as := []) rfl rfl (hR.clO ko_42 (by decide) (by decide)) (by decide) (Nat.le_of_ble_eq_true rfl) (Nat.le_of_ble_eq_true rfl) rfl (Nat.le_of_ble_eq_true rfl) rfl ?_
  refine zz_J.mono (k hR) ?_
  intro o h' hE
  cases o with
  | inl v => exact zz_J.weak hE rfl ⟨rfl, rfl, rfl, rfl, rfl, trivial⟩
  | inr q => exact hE
theorem cb_170_31 {X : Nat → Option zz_C} {h : zz_H} {t : cS} {s : mS} {d : Nat} {Q : zz_O → zz_H → Prop} {x2 : Int64} {x4 : Int32} {x5 : Int32} {y0 : Int32} (hR : kR h t s) (k1 : ¬ x5 = 1 → (∀ {h : zz_H}, kR h t s → zz_J zp_P zt_tf zt_fd X d zm_170 45 [(0, .ref 45), (1, .ref 42), (2, .long x2), (4, .int x4), (5, .int x5), (6, .int y0)] [.ref 45] h Q)) (k2 : ¬ ¬ x5 = 1 → (∀ {h : zz_H}, kR h t s → zz_J zp_P zt_tf zt_fd X d zm_170 40 [(0, .ref 45), (1, .ref 42), (2, .long x2), (4, .int x4), (5, .int x5), (6, .int y0)] [.ref 45] h Q)) : zz_J zp_P zt_tf zt_fd X d zm_170 31 [(0, .ref 45), (1, .ref 42), (2, .long x2), (4, .int x4), (5, .int x5)] [.int y0] h Q := by
  refine zz_J.n 33 rfl rfl rfl ?_
  refine zz_J.n 34 rfl rfl rfl ?_
  refine zz_J.n 36 rfl rfl rfl ?_
  refine zz_J.c 37 (.int 1) rfl rfl rfl rfl ?_
  refine zz_J.b2 45 40 (A := ¬ x5 = 1) rfl (zz_cond_ne _ _) (by decide) rfl rfl (fun c => ?_) (fun c => ?_)
  · exact zz_J.weak (k1 c hR) rfl ⟨rfl, rfl, rfl, rfl, rfl, rfl, trivial⟩
  · exact zz_J.weak (k2 c hR) rfl ⟨rfl, rfl, rfl, rfl, rfl, rfl, trivial⟩
theorem cb_170_40 {X : Nat → Option zz_C} {h : zz_H} {t : cS} {s : mS} {d : Nat} {Q : zz_O → zz_H → Prop} {x2 : Int64} {x4 : Int32} {x5 : Int32} {x6 : Int32} (hR : kR h t s) (k : ∀ {h : zz_H}, kR h t s → zz_J zp_P zt_tf zt_fd X d zm_170 58 [(0, .ref 45), (1, .ref 42), (2, .long x2), (4, .int x4), (5, .int x5), (6, .int x6)] [.int 91, .ref 45] h Q) : zz_J zp_P zt_tf zt_fd X d zm_170 40 [(0, .ref 45), (1, .ref 42), (2, .long x2), (4, .int x4), (5, .int x5), (6, .int x6)] [.ref 45] h Q := by
  refine zz_J.c 42 (.int 91) rfl rfl rfl rfl ?_
  refine zz_J.n 58 rfl rfl rfl ?_
  exact zz_J.weak (k hR) rfl ⟨rfl, rfl, rfl, rfl, rfl, rfl, trivial⟩
theorem cb_170_45 {X : Nat → Option zz_C} {h : zz_H} {t : cS} {s : mS} {d : Nat} {Q : zz_O → zz_H → Prop} {x2 : Int64} {x4 : Int32} {x5 : Int32} {x6 : Int32} (hR : kR h t s) (k1 : ¬ x5 = 2 → (∀ {h : zz_H}, kR h t s → zz_J zp_P zt_tf zt_fd X d zm_170 56 [(0, .ref 45), (1, .ref 42), (2, .long x2), (4, .int x4), (5, .int x5), (6, .int x6)] [.ref 45] h Q)) (k2 : ¬ ¬ x5 = 2 → (∀ {h : zz_H}, kR h t s → zz_J zp_P zt_tf zt_fd X d zm_170 51 [(0, .ref 45), (1, .ref 42), (2, .long x2), (4, .int x4), (5, .int x5), (6, .int x6)] [.ref 45] h Q)) : zz_J zp_P zt_tf zt_fd X d zm_170 45 [(0, .ref 45), (1, .ref 42), (2, .long x2), (4, .int x4), (5, .int x5), (6, .int x6)] [.ref 45] h Q := by
  refine zz_J.n 47 rfl rfl rfl ?_
  refine zz_J.c 48 (.int 2) rfl rfl rfl rfl ?_
  refine zz_J.b2 56 51 (A := ¬ x5 = 2) rfl (zz_cond_ne _ _) (by decide) rfl rfl (fun c => ?_) (fun c => ?_)
  · exact zz_J.weak (k1 c hR) rfl ⟨rfl, rfl, rfl, rfl, rfl, rfl, trivial⟩
  · exact zz_J.weak (k2 c hR) rfl ⟨rfl, rfl, rfl, rfl, rfl, rfl, trivial⟩
theorem cb_170_51 {X : Nat → Option zz_C} {h : zz_H} {t : cS} {s : mS} {d : Nat} {Q : zz_O → zz_H → Prop} {x2 : Int64} {x4 : Int32} {x5 : Int32} {x6 : Int32} (hR : kR h t s) (k : ∀ {h : zz_H}, kR h t s → zz_J zp_P zt_tf zt_fd X d zm_170 58 [(0, .ref 45), (1, .ref 42), (2, .long x2), (4, .int x4), (5, .int x5), (6, .int x6)] [.int 123, .ref 45] h Q) : zz_J zp_P zt_tf zt_fd X d zm_170 51 [(0, .ref 45), (1, .ref 42), (2, .long x2), (4, .int x4), (5, .int x5), (6, .int x6)] [.ref 45] h Q := by
  refine zz_J.c 53 (.int 123) rfl rfl rfl rfl ?_
  refine zz_J.n 58 rfl rfl rfl ?_
  exact zz_J.weak (k hR) rfl ⟨rfl, rfl, rfl, rfl, rfl, rfl, trivial⟩
theorem cb_170_56 {X : Nat → Option zz_C} {h : zz_H} {t : cS} {s : mS} {d : Nat} {Q : zz_O → zz_H → Prop} {x2 : Int64} {x4 : Int32} {x5 : Int32} {x6 : Int32} (hR : kR h t s) (k : ∀ {h : zz_H}, kR h t s → zz_J zp_P zt_tf zt_fd X d zm_170 58 [(0, .ref 45), (1, .ref 42), (2, .long x2), (4, .int x4), (5, .int x5), (6, .int x6)] [.int 40, .ref 45] h Q) : zz_J zp_P zt_tf zt_fd X d zm_170 56 [(0, .ref 45), (1, .ref 42), (2, .long x2), (4, .int x4), (5, .int x5), (6, .int x6)] [.ref 45] h Q := by
  refine zz_J.c 58 (.int 40) rfl rfl rfl rfl ?_
  exact zz_J.weak (k hR) rfl ⟨rfl, rfl, rfl, rfl, rfl, rfl, trivial⟩
theorem cb_170_58 {X : Nat → Option zz_C} {h : zz_H} {t : cS} {s : mS} {d : Nat} {Q : zz_O → zz_H → Prop} {x2 : Int64} {x4 : Int32} {x5 : Int32} {x6 : Int32} {y1 : Int32} (hR : kR h t s) (k : ∀ {h : zz_H}, kR h t s → zz_J zp_P zt_tf zt_fd X d zm_171 0 [(0, .ref 45), (1, .int y1)] [] h (zz_after 4 Q (fun v h' => zz_J zp_P zt_tf zt_fd X (d + 1) zm_170 61 [(0, .ref 45), (1, .ref 42), (2, .long x2), (4, .int x4), (5, .int x5), (6, .int x6)] (v.toList ++ []) h' Q))) : zz_J zp_P zt_tf zt_fd X (d + 1) zm_170 58 [(0, .ref 45), (1, .ref 42), (2, .long x2), (4, .int x4), (5, .int x5), (6, .int x6)] [.int y1, .ref 45] h Q := by
  refine zz_J.cv 61 (as := []) rfl rfl (hR.clO ko_45 (by decide) (by decide)) (by decide) (Nat.le_of_ble_eq_true rfl) (Nat.le_of_ble_eq_true rfl) rfl (Nat.le_of_ble_eq_true rfl) rfl ?_
  refine zz_J.mono (k hR) ?_
  intro o h' hE
  cases o with
  | inl v => exact zz_J.weak hE rfl ⟨rfl, rfl, rfl, rfl, rfl, rfl, trivial⟩
  | inr q => exact hE
theorem cb_170_61 {X : Nat → Option zz_C} {h : zz_H} {t : cS} {s : mS} {d : Nat} {Q : zz_O → zz_H → Prop} {x2 : Int64} {x4 : Int32} {x5 : Int32} {x6 : Int32} (hR : kR h t s) (k : ∀ {h : zz_H}, kR h t s → zz_J zp_P zt_tf zt_fd X d zm_170 64 [(0, .ref 45), (1, .ref 42), (2, .long x2), (4, .int x4), (5, .int x5), (6, .int x6), (7, .int 0)] [] h Q) : zz_J zp_P zt_tf zt_fd X d zm_170 61 [(0, .ref 45), (1, .ref 42), (2, .long x2), (4, .int x4), (5, .int x5), (6, .int x6)] [] h Q := by
  refine zz_J.c 62 (.int 0) rfl rfl rfl rfl ?_
  refine zz_J.n 64 rfl rfl rfl ?_
  exact zz_J.weak (k hR) rfl ⟨rfl, rfl, rfl, rfl, rfl, rfl, rfl, trivial⟩
theorem cb_170_64 {X : Nat → Option zz_C} {h : zz_H} {t : cS} {s : mS} {d : Nat} {Q : zz_O → zz_H → Prop} {x2 : Int64} {x4 : Int32} {x5 : Int32} {x6 : Int32} {x7 : Int32} (hR : kR h t s) (k1 : x6 ≤ x7 → (∀ {h : zz_H}, kR h t s → zz_J zp_P zt_tf zt_fd X d zm_170 121 [(0, .ref 45), (5, .int x5)] [] h Q)) (k2 : ¬ x6 ≤ x7 → (∀ {h : zz_H}, kR h t s → zz_J zp_P zt_tf zt_fd X d zm_170 71 [(0, .ref 45), (1, .ref 42), (2, .long x2), (4, .int x4), (5, .int x5), (6, .int x6), (7, .int x7)] [] h Q)) : zz_J zp_P zt_tf zt_fd X d zm_170 64 [(0, .ref 45), (1, .ref 42), (2, .long x2), (4, .int x4), (5, .int x5), (6, .int x6), (7, .int x7)] [] h Q := by
  refine zz_J.n 66 rfl rfl rfl ?_
  refine zz_J.n 68 rfl rfl rfl ?_
  refine zz_J.b2 121 71 (A := x6 ≤ x7) rfl rfl (by decide) rfl rfl (fun c => ?_) (fun c => ?_)
  · exact zz_J.weak (k1 c hR) rfl ⟨rfl, rfl, trivial⟩
  · exact zz_J.weak (k2 c hR) rfl ⟨rfl, rfl, rfl, rfl, rfl, rfl, rfl, trivial⟩
theorem cb_170_71 {X : Nat → Option zz_C} {h : zz_H} {t : cS} {s : mS} {d : Nat} {Q : zz_O → zz_H → Prop} {x2 : Int64} {x4 : Int32} {x5 : Int32} {x6 : Int32} {x7 : Int32} (hR : kR h t s) (k1 : x7 ≤ 0 → (∀ {h : zz_H}, kR h t s → zz_J zp_P zt_tf zt_fd X d zm_170 99 [(0, .ref 45), (1, .ref 42), (2, .long x2), (4, .int x4), (5, .int x5), (6, .int x6), (7, .int x7)] [] h Q)) (k2 : ¬ x7 ≤ 0 → (∀ {h : zz_H}, kR h t s → zz_J zp_P zt_tf zt_fd X d zm_170 76 [(0, .ref 45), (1, .ref 42), (2, .long x2), (4, .int x4), (5, .int x5), (6, .int x6), (7, .int x7)] [] h Q)) : zz_J zp_P zt_tf zt_fd X d zm_170 71 [(0, .ref 45), (1, .ref 42), (2, .long x2), (4, .int x4), (5, .int x5), (6, .int x6), (7, .int x7)] [] h Q := by
  refine zz_J.n 73 rfl rfl rfl ?_
  refine zz_J.b1 99 76 (A := x7 ≤ 0) rfl rfl (by decide) rfl rfl (fun c => ?_) (fun c => ?_)
  · exact zz_J.weak (k1 c hR) rfl ⟨rfl, rfl, rfl, rfl, rfl, rfl, rfl, trivial⟩
  · exact zz_J.weak (k2 c hR) rfl ⟨rfl, rfl, rfl, rfl, rfl, rfl, rfl, trivial⟩
theorem cb_170_76 {X : Nat → Option zz_C} {h : zz_H} {t : cS} {s : mS} {d : Nat} {Q : zz_O → zz_H → Prop} {x2 : Int64} {x4 : Int32} {x5 : Int32} {x6 : Int32} {x7 : Int32} (hR : kR h t s) (k1 : x5 = 2 → (∀ {h : zz_H}, kR h t s → zz_J zp_P zt_tf zt_fd X d zm_170 99 [(0, .ref 45), (1, .ref 42), (2, .long x2), (4, .int x4), (5, .int x5), (6, .int x6), (7, .int x7)] [] h Q)) (k2 : ¬ x5 = 2 → (∀ {h : zz_H}, kR h t s → zz_J zp_P zt_tf zt_fd X d zm_170 82 [(0, .ref 45), (1, .ref 42), (2, .long x2), (4, .int x4), (5, .int x5), (6, .int x6), (7, .int x7)] [] h Q)) : zz_J zp_P zt_tf zt_fd X d zm_170 76 [(0, .ref 45), (1, .ref 42), (2, .long x2), (4, .int x4), (5, .int x5), (6, .int x6), (7, .int x7)] [] h Q := by
  refine zz_J.n 78 rfl rfl rfl ?_
  refine zz_J.c 79 (.int 2) rfl rfl rfl rfl ?_
  refine zz_J.b2 99 82 (A := x5 = 2) rfl rfl (by decide) rfl rfl (fun c => ?_) (fun c => ?_)
  · exact zz_J.weak (k1 c hR) rfl ⟨rfl, rfl, rfl, rfl, rfl, rfl, rfl, trivial⟩
  · exact zz_J.weak (k2 c hR) rfl ⟨rfl, rfl, rfl, rfl, rfl, rfl, rfl, trivial⟩
theorem cb_170_82 {X : Nat → Option zz_C} {h : zz_H} {t : cS} {s : mS} {d : Nat} {Q : zz_O → zz_H → Prop} {x2 : Int64} {x4 : Int32} {x5 : Int32} {x6 : Int32} {x7 : Int32} (hR : kR h t s) (k1 : ¬ x5 = 1 → (∀ {h : zz_H}, kR h t s → zz_J zp_P zt_tf zt_fd X d zm_170 94 [(0, .ref 45), (1, .ref 42), (2, .long x2), (4, .int x4), (5, .int x5), (6, .int x6), (7, .int x7)] [.ref 45] h Q)) (k2 : ¬ ¬ x5 = 1 → (∀ {h : zz_H}, kR h t s → zz_J zp_P zt_tf zt_fd X d zm_170 89 [(0, .ref 45), (1, .ref 42), (2, .long x2), (4, .int x4), (5, .int x5), (6, .int x6), (7, .int x7)] [.ref 45] h Q)) : zz_J zp_P zt_tf zt_fd X d zm_170 82 [(0, .ref 45), (1, .ref 42), (2, .long x2), (4, .int x4), (5, .int x5), (6, .int x6), (7, .int x7)] [] h Q := by
  refine zz_J.n 83 rfl rfl rfl ?_
  refine zz_J.n 85 rfl rfl rfl ?_
  refine zz_J.c 86 (.int 1) rfl rfl rfl rfl ?_
  refine zz_J.b2 94 89 (A := ¬ x5 = 1) rfl (zz_cond_ne _ _) (by decide) rfl rfl (fun c => ?_) (fun c => ?_)
  · exact zz_J.weak (k1 c hR) rfl ⟨rfl, rfl, rfl, rfl, rfl, rfl, rfl, trivial⟩
  · exact zz_J.weak (k2 c hR) rfl ⟨rfl, rfl, rfl, rfl, rfl, rfl, rfl, trivial⟩
theorem cb_170_89 {X : Nat → Option zz_C} {h : zz_H} {t : cS} {s : mS} {d : Nat} {Q : zz_O → zz_H → Prop} {x2 : Int64} {x4 : Int32} {x5 : Int32} {x6 : Int32} {x7 : Int32} (hR : kR h t s) (k : ∀ {h : zz_H}, kR h t s → zz_J zp_P zt_tf zt_fd X d zm_170 96 [(0, .ref 45), (1, .ref 42), (2, .long x2), (4, .int x4), (5, .int x5), (6, .int x6), (7, .int x7)] [.int 32, .ref 45] h Q) : zz_J zp_P zt_tf zt_fd X d zm_170 89 [(0, .ref 45), (1, .ref 42), (2, .long x2), (4, .int x4), (5, .int x5), (6, .int x6), (7, .int x7)] [.ref 45] h Q := by
  refine zz_J.c 91 (.int 32) rfl rfl rfl rfl ?_
  refine zz_J.n 96 rfl rfl rfl ?_
  exact zz_J.weak (k hR) rfl ⟨rfl, rfl, rfl, rfl, rfl, rfl, rfl, trivial⟩
theorem cb_170_94 {X : Nat → Option zz_C} {h : zz_H} {t : cS} {s : mS} {d : Nat} {Q : zz_O → zz_H → Prop} {x2 : Int64} {x4 : Int32} {x5 : Int32} {x6 : Int32} {x7 : Int32} (hR : kR h t s) (k : ∀ {h : zz_H}, kR h t s → zz_J zp_P zt_tf zt_fd X d zm_170 96 [(0, .ref 45), (1, .ref 42), (2, .long x2), (4, .int x4), (5, .int x5), (6, .int x6), (7, .int x7)] [.int 59, .ref 45] h Q) : zz_J zp_P zt_tf zt_fd X d zm_170 94 [(0, .ref 45), (1, .ref 42), (2, .long x2), (4, .int x4), (5, .int x5), (6, .int x6), (7, .int x7)] [.ref 45] h Q := by
  refine zz_J.c 96 (.int 59) rfl rfl rfl rfl ?_
  exact zz_J.weak (k hR) rfl ⟨rfl, rfl, rfl, rfl, rfl, rfl, rfl, trivial⟩
theorem cb_170_96 {X : Nat → Option zz_C} {h : zz_H} {t : cS} {s : mS} {d : Nat} {Q : zz_O → zz_H → Prop} {x2 : Int64} {x4 : Int32} {x5 : Int32} {x6 : Int32} {x7 : Int32} {y1 : Int32} (hR : kR h t s) (k : ∀ {h : zz_H}, kR h t s → zz_J zp_P zt_tf zt_fd X d zm_171 0 [(0, .ref 45), (1, .int y1)] [] h (zz_after 4 Q (fun v h' => zz_J zp_P zt_tf zt_fd X (d + 1) zm_170 99 [(0, .ref 45), (1, .ref 42), (2, .long x2), (4, .int x4), (5, .int x5), (6, .int x6), (7, .int x7)] (v.toList ++ []) h' Q))) : zz_J zp_P zt_tf zt_fd X (d + 1) zm_170 96 [(0, .ref 45), (1, .ref 42), (2, .long x2), (4, .int x4), (5, .int x5), (6, .int x6), (7, .int x7)] [.int y1, .ref 45] h Q := by
  refine zz_J.cv 99 (as := []) rfl rfl (hR.clO ko_45 (by decide) (by decide)) (by decide) (Nat.le_of_ble_eq_true rfl) (Nat.le_of_ble_eq_true rfl) rfl (Nat.le_of_ble_eq_true rfl) rfl ?_
  refine zz_J.mono (k hR) ?_
  intro o h' hE
  cases o with
  | inl v => exact zz_J.weak hE rfl ⟨rfl, rfl, rfl, rfl, rfl, rfl, rfl, trivial⟩
  | inr q => exact hE
theorem cb_170_99 {X : Nat → Option zz_C} {h : zz_H} {t : cS} {s : mS} {d : Nat} {Q : zz_O → zz_H → Prop} {x2 : Int64} {x4 : Int32} {x5 : Int32} {x6 : Int32} {x7 : Int32} (hR : kR h t s) (k : ∀ {h : zz_H}, kR h t s → zz_J zp_P zt_tf zt_fd X d zm_129 0 [(0, .ref 42), (1, .long x2), (3, .int x7)] [] h (zz_after 2 Q (fun v h' => zz_J zp_P zt_tf zt_fd X (d + 1) zm_170 108 [(0, .ref 45), (1, .ref 42), (2, .long x2), (4, .int x4), (5, .int x5), (6, .int x6), (7, .int x7)] (v.toList ++ [.ref 42, .ref 45]) h' Q))) : zz_J zp_P zt_tf zt_fd X (d + 1) zm_170 99 [(0, .ref 45), (1, .ref 42), (2, .long x2), (4, .int x4), (5, .int x5), (6, .int x6), (7, .int x7)] [] h Q := by
  refine zz_J.n 100 rfl rfl rfl ?_
  refine zz_J.n 101 rfl rfl rfl ?_
  refine zz_J.n 102 rfl rfl rfl ?_
  refine zz_J.n 103 rfl rfl rfl ?_
  refine zz_J.n 105 rfl rfl rfl ?_
  refine zz_J.cv 108 (as := [.ref 42, .ref 45]) rfl rfl (hR.clO ko_42 (by decide) (by decide)) (by decide) (Nat.le_of_ble_eq_true rfl) (Nat.le_of_ble_eq_true rfl) rfl (Nat.le_of_ble_eq_true rfl) rfl ?_
  refine zz_J.mono (k hR) ?_
  intro o h' hE
  cases o with
  | inl v => exact zz_J.weak hE rfl ⟨rfl, rfl, rfl, rfl, rfl, rfl, rfl, trivial⟩
  | inr q => exact hE
theorem cb_170_108 {X : Nat → Option zz_C} {h : zz_H} {t : cS} {s : mS} {d : Nat} {Q : zz_O → zz_H → Prop} {x2 : Int64} {x4 : Int32} {x5 : Int32} {x6 : Int32} {x7 : Int32} {y2 : Int64} (hR : kR h t s) (k : ∀ {h : zz_H}, kR h t s → zz_J zp_P zt_tf zt_fd X d zm_170 0 [(0, .ref 45), (1, .ref 42), (2, .long y2), (4, .int (x4 + 1))] [] h (zz_after 4 Q (fun v h' => zz_J zp_P zt_tf zt_fd X (d + 1) zm_170 115 [(0, .ref 45), (1, .ref 42), (2, .long x2), (4, .int x4), (5, .int x5), (6, .int x6), (7, .int x7)] (v.toList ++ []) h' Q))) : zz_J zp_P zt_tf zt_fd X (d + 1) zm_170 108 [(0, .ref 45), (1, .ref 42), (2, .long x2), (4, .int x4), (5, .int x5), (6, .int x6), (7, .int x7)] [.long y2, .ref 42, .ref 45] h Q := by
  refine zz_J.n 110 rfl rfl rfl ?_
  refine zz_J.c 111 (.int 1) rfl rfl rfl rfl ?_
  refine zz_J.n 112 rfl rfl rfl ?_
  refine zz_J.cv 115 (as := []) rfl rfl (hR.clO ko_45 (by decide) (by decide)) (by decide) (Nat.le_of_ble_eq_true rfl) (Nat.le_of_ble_eq_true rfl) rfl (Nat.le_of_ble_eq_true rfl) rfl ?_
  refine zz_J.mono (k hR) ?_
  intro o h' hE
  cases o with
  | inl v => exact zz_J.weak hE rfl ⟨rfl, rfl, rfl, rfl, rfl, rfl, rfl, trivial⟩
  | inr q => exact hE
theorem cb_170_115 {X : Nat → Option zz_C} {h : zz_H} {t : cS} {s : mS} {d : Nat} {Q : zz_O → zz_H → Prop} {x2 : Int64} {x4 : Int32} {x5 : Int32} {x6 : Int32} {x7 : Int32} (hR : kR h t s) (k : ∀ {h : zz_H}, kR h t s → zz_J zp_P zt_tf zt_fd X d zm_170 64 [(0, .ref 45), (1, .ref 42), (2, .long x2), (4, .int x4), (5, .int x5), (6, .int x6), (7, .int (x7 + 1))] [] h Q) : zz_J zp_P zt_tf zt_fd X d zm_170 115 [(0, .ref 45), (1, .ref 42), (2, .long x2), (4, .int x4), (5, .int x5), (6, .int x6), (7, .int x7)] [] h Q := by
  refine zz_J.n 118 rfl rfl rfl ?_
  refine zz_J.n 64 rfl rfl rfl ?_
  exact zz_J.weak (k hR) rfl ⟨rfl, rfl, rfl, rfl, rfl, rfl, rfl, trivial⟩
theorem cb_170_121 {X : Nat → Option zz_C} {h : zz_H} {t : cS} {s : mS} {d : Nat} {Q : zz_O → zz_H → Prop} {x5 : Int32} (hR : kR h t s) (k1 : ¬ x5 = 1 → (∀ {h : zz_H}, kR h t s → zz_J zp_P zt_tf zt_fd X d zm_170 133 [(5, .int x5)] [.ref 45] h Q)) (k2 : ¬ ¬ x5 = 1 → (∀ {h : zz_H}, kR h t s → zz_J zp_P zt_tf zt_fd X d zm_170 128 [] [.ref 45] h Q)) : zz_J zp_P zt_tf zt_fd X d zm_170 121 [(0, .ref 45), (5, .int x5)] [] h Q := by
  refine zz_J.n 122 rfl rfl rfl ?_
  refine zz_J.n 124 rfl rfl rfl ?_
  refine zz_J.c 125 (.int 1) rfl rfl rfl rfl ?_
  refine zz_J.b2 133 128 (A := ¬ x5 = 1) rfl (zz_cond_ne _ _) (by decide) rfl rfl (fun c => ?_) (fun c => ?_)
  · exact zz_J.weak (k1 c hR) rfl ⟨rfl, trivial⟩
  · exact zz_J.weak (k2 c hR) rfl trivial
theorem cb_170_128 {X : Nat → Option zz_C} {h : zz_H} {t : cS} {s : mS} {d : Nat} {Q : zz_O → zz_H → Prop}  (hR : kR h t s) (k : ∀ {h : zz_H}, kR h t s → zz_J zp_P zt_tf zt_fd X d zm_170 146 [] [.int 93, .ref 45] h Q) : zz_J zp_P zt_tf zt_fd X d zm_170 128 [] [.ref 45] h Q := by
  refine zz_J.c 130 (.int 93) rfl rfl rfl rfl ?_
  refine zz_J.n 146 rfl rfl rfl ?_
  exact zz_J.weak (k hR) rfl trivial
theorem cb_170_133 {X : Nat → Option zz_C} {h : zz_H} {t : cS} {s : mS} {d : Nat} {Q : zz_O → zz_H → Prop} {x5 : Int32} (hR : kR h t s) (k1 : ¬ x5 = 2 → (∀ {h : zz_H}, kR h t s → zz_J zp_P zt_tf zt_fd X d zm_170 144 [] [.ref 45] h Q)) (k2 : ¬ ¬ x5 = 2 → (∀ {h : zz_H}, kR h t s → zz_J zp_P zt_tf zt_fd X d zm_170 139 [] [.ref 45] h Q)) : zz_J zp_P zt_tf zt_fd X d zm_170 133 [(5, .int x5)] [.ref 45] h Q := by
  refine zz_J.n 135 rfl rfl rfl ?_
  refine zz_J.c 136 (.int 2) rfl rfl rfl rfl ?_
  refine zz_J.b2 144 139 (A := ¬ x5 = 2) rfl (zz_cond_ne _ _) (by decide) rfl rfl (fun c => ?_) (fun c => ?_)
  · exact zz_J.weak (k1 c hR) rfl trivial
  · exact zz_J.weak (k2 c hR) rfl trivial
theorem cb_170_139 {X : Nat → Option zz_C} {h : zz_H} {t : cS} {s : mS} {d : Nat} {Q : zz_O → zz_H → Prop}  (hR : kR h t s) (k : ∀ {h : zz_H}, kR h t s → zz_J zp_P zt_tf zt_fd X d zm_170 146 [] [.int 125, .ref 45] h Q) : zz_J zp_P zt_tf zt_fd X d zm_170 139 [] [.ref 45] h Q := by
  refine zz_J.c 141 (.int 125) rfl rfl rfl rfl ?_
  refine zz_J.n 146 rfl rfl rfl ?_
  exact zz_J.weak (k hR) rfl trivial
theorem cb_170_144 {X : Nat → Option zz_C} {h : zz_H} {t : cS} {s : mS} {d : Nat} {Q : zz_O → zz_H → Prop}  (hR : kR h t s) (k : ∀ {h : zz_H}, kR h t s → zz_J zp_P zt_tf zt_fd X d zm_170 146 [] [.int 41, .ref 45] h Q) : zz_J zp_P zt_tf zt_fd X d zm_170 144 [] [.ref 45] h Q := by
  refine zz_J.c 146 (.int 41) rfl rfl rfl rfl ?_
  exact zz_J.weak (k hR) rfl trivial
theorem cb_170_146 {X : Nat → Option zz_C} {h : zz_H} {t : cS} {s : mS} {d : Nat} {Q : zz_O → zz_H → Prop} {y1 : Int32} (hR : kR h t s) (k : ∀ {h : zz_H}, kR h t s → zz_J zp_P zt_tf zt_fd X d zm_171 0 [(0, .ref 45), (1, .int y1)] [] h (zz_after 4 Q (fun v h' => zz_J zp_P zt_tf zt_fd X (d + 1) zm_170 149 [] (v.toList ++ []) h' Q))) : zz_J zp_P zt_tf zt_fd X (d + 1) zm_170 146 [] [.int y1, .ref 45] h Q := by
  refine zz_J.cv 149 (as := []) rfl rfl (hR.clO ko_45 (by decide) (by decide)) (by decide) (Nat.le_of_ble_eq_true rfl) (Nat.le_of_ble_eq_true rfl) rfl (Nat.le_of_ble_eq_true rfl) rfl ?_
  refine zz_J.mono (k hR) ?_
  intro o h' hE
  cases o with
  | inl v => exact zz_J.weak hE rfl trivial
  | inr q => exact hE
theorem cb_170_149 {X : Nat → Option zz_C} {h : zz_H} {t : cS} {s : mS} {d : Nat} {Q : zz_O → zz_H → Prop}  (hR : kR h t s) (k : ∀ {h : zz_H}, kR h t s → Q (.inl none) h) : zz_J zp_P zt_tf zt_fd X d zm_170 149 [] [] h Q := by
  refine zz_J.ret rfl rfl rfl ?_
  exact k hR
def cf_170_25 (N : Nat) (X : Nat → Option zz_C) (rk : Nat → List Value → cS → kO)  (t : cS) : kO := some (t, .inl none)
theorem cr_170_25 {X : Nat → Option zz_C} {s : mS} {N : Nat} {rk : Nat → List Value → cS → kO} {D : Nat} (hrk : cK2 X s D rk) (hB : 11 ≤ D) {d : Nat} (hd : D + 1 ≤ d) {Q : zz_O → zz_H → Prop}  {h : zz_H} {t t' : cS} {o : kY} (hR : kR h t s) (hf : cf_170_25 N X rk  t = some (t', o)) (k : (∀ h', kR h' t' s → kE o Q h')) : zz_J zp_P zt_tf zt_fd X d zm_170 25 [] [] h Q := by
  unfold cf_170_25 at hf
  cases hf
  exact cb_170_25 hR  (fun {h} hR => k h hR)
def cf_170_22 (N : Nat) (X : Nat → Option zz_C) (rk : Nat → List Value → cS → kO) (y1 : Int32) (t : cS) : kO := ko_call 4 (cf_172 N X y1 t) (fun g1 v1 => co_v v1 (cf_170_25 N X rk  g1))
theorem cr_170_22 {X : Nat → Option zz_C} {s : mS} {N : Nat} {rk : Nat → List Value → cS → kO} {D : Nat} (hrk : cK2 X s D rk) (hB : 11 ≤ D) {d : Nat} (hd : D + 1 ≤ d) {Q : zz_O → zz_H → Prop} {y1 : Int32} {h : zz_H} {t t' : cS} {o : kY} (hR : kR h t s) (hf : cf_170_22 N X rk y1 t = some (t', o)) (k : (∀ h', kR h' t' s → kE o Q h')) : zz_J zp_P zt_tf zt_fd X d zm_170 22 [] [.int y1, .ref 45] h Q := by
  unfold cf_170_22 at hf
  obtain ⟨d', rfl⟩ : ∃ d', d = d' + 1 := ⟨d - 1, by omega⟩
  refine cb_170_22 hR  (fun {h} hR => ?_)
  rcases ko_call_ok hf with ⟨g1, v1, er, hf⟩ | ⟨g1, er, hq⟩
  · obtain ⟨hv, hf2⟩ := co_v_ok hf
    clear hf
    have hf := hf2
    clear hf2
    subst hv
    refine cr_172 (by omega) hR er (fun h hR => ?_)
    exact cr_170_25 hrk hB hd hR hf k
  · refine cr_172 (by omega) hR er (fun h hR => ?_)
    exact ko_thrown hq hR k
def cf_170_17 (N : Nat) (X : Nat → Option zz_C) (rk : Nat → List Value → cS → kO) (x2 : Int64) (t : cS) : kO := ko_call 1000 (cf_256 N X x2 t) (fun g1 v1 => co_i v1 (fun y => cf_170_22 N X rk y g1))
theorem cr_170_17 {X : Nat → Option zz_C} {s : mS} {N : Nat} {rk : Nat → List Value → cS → kO} {D : Nat} (hrk : cK2 X s D rk) (hB : 11 ≤ D) {d : Nat} (hd : D + 1 ≤ d) {Q : zz_O → zz_H → Prop} {x2 : Int64} {h : zz_H} {t t' : cS} {o : kY} (hR : kR h t s) (hf : cf_170_17 N X rk x2 t = some (t', o)) (k : (∀ h', kR h' t' s → kE o Q h')) : zz_J zp_P zt_tf zt_fd X d zm_170 17 [(0, .ref 45), (2, .long x2)] [] h Q := by
  unfold cf_170_17 at hf
  obtain ⟨d', rfl⟩ : ∃ d', d = d' + 1 := ⟨d - 1, by omega⟩
  refine cb_170_17 hR  (fun {h} hR => ?_)
  rcases ko_call_ok hf with ⟨g1, v1, er, hf⟩ | ⟨g1, er, hq⟩
  · obtain ⟨y, hv, hf2⟩ := co_i_ok hf
    clear hf
    have hf := hf2
    clear hf2
    subst hv
    refine cr_256 (by omega) hR er (fun h hR => ?_)
    exact cr_170_22 hrk hB hd hR hf k
  · refine cr_256 (by omega) hR er (fun h hR => ?_)
    exact ko_thrown hq hR k
def cf_170_149 (N : Nat) (X : Nat → Option zz_C) (rk : Nat → List Value → cS → kO)  (t : cS) : kO := some (t, .inl none)
theorem cr_170_149 {X : Nat → Option zz_C} {s : mS} {N : Nat} {rk : Nat → List Value → cS → kO} {D : Nat} (hrk : cK2 X s D rk) (hB : 11 ≤ D) {d : Nat} (hd : D + 1 ≤ d) {Q : zz_O → zz_H → Prop}  {h : zz_H} {t t' : cS} {o : kY} (hR : kR h t s) (hf : cf_170_149 N X rk  t = some (t', o)) (k : (∀ h', kR h' t' s → kE o Q h')) : zz_J zp_P zt_tf zt_fd X d zm_170 149 [] [] h Q := by
  unfold cf_170_149 at hf
  cases hf
  exact cb_170_149 hR  (fun {h} hR => k h hR)
def cf_170_146 (N : Nat) (X : Nat → Option zz_C) (rk : Nat → List Value → cS → kO) (y1 : Int32) (t : cS) : kO := ko_call 4 (cf_171 N X y1 t) (fun g1 v1 => co_v v1 (cf_170_149 N X rk  g1))
theorem cr_170_146 {X : Nat → Option zz_C} {s : mS} {N : Nat} {rk : Nat → List Value → cS → kO} {D : Nat} (hrk : cK2 X s D rk) (hB : 11 ≤ D) {d : Nat} (hd : D + 1 ≤ d) {Q : zz_O → zz_H → Prop} {y1 : Int32} {h : zz_H} {t t' : cS} {o : kY} (hR : kR h t s) (hf : cf_170_146 N X rk y1 t = some (t', o)) (k : (∀ h', kR h' t' s → kE o Q h')) : zz_J zp_P zt_tf zt_fd X d zm_170 146 [] [.int y1, .ref 45] h Q := by
  unfold cf_170_146 at hf
  obtain ⟨d', rfl⟩ : ∃ d', d = d' + 1 := ⟨d - 1, by omega⟩
  refine cb_170_146 hR  (fun {h} hR => ?_)
  rcases ko_call_ok hf with ⟨g1, v1, er, hf⟩ | ⟨g1, er, hq⟩
  · obtain ⟨hv, hf2⟩ := co_v_ok hf
    clear hf
    have hf := hf2
    clear hf2
    subst hv
    refine cr_171 (by omega) hR er (fun h hR => ?_)
    exact cr_170_149 hrk hB hd hR hf k
  · refine cr_171 (by omega) hR er (fun h hR => ?_)
    exact ko_thrown hq hR k
def cf_170_144 (N : Nat) (X : Nat → Option zz_C) (rk : Nat → List Value → cS → kO)  (t : cS) : kO := cf_170_146 N X rk 41 t
theorem cr_170_144 {X : Nat → Option zz_C} {s : mS} {N : Nat} {rk : Nat → List Value → cS → kO} {D : Nat} (hrk : cK2 X s D rk) (hB : 11 ≤ D) {d : Nat} (hd : D + 1 ≤ d) {Q : zz_O → zz_H → Prop}  {h : zz_H} {t t' : cS} {o : kY} (hR : kR h t s) (hf : cf_170_144 N X rk  t = some (t', o)) (k : (∀ h', kR h' t' s → kE o Q h')) : zz_J zp_P zt_tf zt_fd X d zm_170 144 [] [.ref 45] h Q := by
  unfold cf_170_144 at hf
  exact cb_170_144 hR  (fun hR => cr_170_146 hrk hB hd hR hf k)
def cf_170_139 (N : Nat) (X : Nat → Option zz_C) (rk : Nat → List Value → cS → kO)  (t : cS) : kO := cf_170_146 N X rk 125 t
theorem cr_170_139 {X : Nat → Option zz_C} {s : mS} {N : Nat} {rk : Nat → List Value → cS → kO} {D : Nat} (hrk : cK2 X s D rk) (hB : 11 ≤ D) {d : Nat} (hd : D + 1 ≤ d) {Q : zz_O → zz_H → Prop}  {h : zz_H} {t t' : cS} {o : kY} (hR : kR h t s) (hf : cf_170_139 N X rk  t = some (t', o)) (k : (∀ h', kR h' t' s → kE o Q h')) : zz_J zp_P zt_tf zt_fd X d zm_170 139 [] [.ref 45] h Q := by
  unfold cf_170_139 at hf
  exact cb_170_139 hR  (fun hR => cr_170_146 hrk hB hd hR hf k)
def cf_170_133 (N : Nat) (X : Nat → Option zz_C) (rk : Nat → List Value → cS → kO) (x5 : Int32) (t : cS) : kO := if ¬ x5 = 2 then cf_170_144 N X rk  t else cf_170_139 N X rk  t
theorem cr_170_133 {X : Nat → Option zz_C} {s : mS} {N : Nat} {rk : Nat → List Value → cS → kO} {D : Nat} (hrk : cK2 X s D rk) (hB : 11 ≤ D) {d : Nat} (hd : D + 1 ≤ d) {Q : zz_O → zz_H → Prop} {x5 : Int32} {h : zz_H} {t t' : cS} {o : kY} (hR : kR h t s) (hf : cf_170_133 N X rk x5 t = some (t', o)) (k : (∀ h', kR h' t' s → kE o Q h')) : zz_J zp_P zt_tf zt_fd X d zm_170 133 [(5, .int x5)] [.ref 45] h Q := by
  unfold cf_170_133 at hf
  refine cb_170_133 hR  (fun c {h} hR => ?_) (fun c {h} hR => ?_)
  · rw [if_pos c] at hf
    exact cr_170_144 hrk hB hd hR hf k
  · rw [if_neg c] at hf
    exact cr_170_139 hrk hB hd hR hf k
def cf_170_128 (N : Nat) (X : Nat → Option zz_C) (rk : Nat → List Value → cS → kO)  (t : cS) : kO := cf_170_146 N X rk 93 t
theorem cr_170_128 {X : Nat → Option zz_C} {s : mS} {N : Nat} {rk : Nat → List Value → cS → kO} {D : Nat} (hrk : cK2 X s D rk) (hB : 11 ≤ D) {d : Nat} (hd : D + 1 ≤ d) {Q : zz_O → zz_H → Prop}  {h : zz_H} {t t' : cS} {o : kY} (hR : kR h t s) (hf : cf_170_128 N X rk  t = some (t', o)) (k : (∀ h', kR h' t' s → kE o Q h')) : zz_J zp_P zt_tf zt_fd X d zm_170 128 [] [.ref 45] h Q := by
  unfold cf_170_128 at hf
  exact cb_170_128 hR  (fun hR => cr_170_146 hrk hB hd hR hf k)
def cf_170_121 (N : Nat) (X : Nat → Option zz_C) (rk : Nat → List Value → cS → kO) (x5 : Int32) (t : cS) : kO := if ¬ x5 = 1 then cf_170_133 N X rk x5 t else cf_170_128 N X rk  t
theorem cr_170_121 {X : Nat → Option zz_C} {s : mS} {N : Nat} {rk : Nat → List Value → cS → kO} {D : Nat} (hrk : cK2 X s D rk) (hB : 11 ≤ D) {d : Nat} (hd : D + 1 ≤ d) {Q : zz_O → zz_H → Prop} {x5 : Int32} {h : zz_H} {t t' : cS} {o : kY} (hR : kR h t s) (hf : cf_170_121 N X rk x5 t = some (t', o)) (k : (∀ h', kR h' t' s → kE o Q h')) : zz_J zp_P zt_tf zt_fd X d zm_170 121 [(0, .ref 45), (5, .int x5)] [] h Q := by
  unfold cf_170_121 at hf
  refine cb_170_121 hR  (fun c {h} hR => ?_) (fun c {h} hR => ?_)
  · rw [if_pos c] at hf
    exact cr_170_133 hrk hB hd hR hf k
  · rw [if_neg c] at hf
    exact cr_170_128 hrk hB hd hR hf k
def cf_170_115 (N : Nat) (X : Nat → Option zz_C) (rk : Nat → List Value → cS → kO) (rc : Nat → Int64 → Int32 → Int32 → Int32 → Int32 → cS → kO) (x2 : Int64) (x4 : Int32) (x5 : Int32) (x6 : Int32) (x7 : Int32) (t : cS) : kO := rc 0 x2 x4 x5 x6 (x7 + 1) t
theorem cr_170_115 {X : Nat → Option zz_C} {s : mS} {N : Nat} {rk : Nat → List Value → cS → kO} {D : Nat} (hrk : cK2 X s D rk) (hB : 11 ≤ D) {d : Nat} (hd : D + 1 ≤ d) {rc : Nat → Int64 → Int32 → Int32 → Int32 → Int32 → cS → kO} (hrc0 : ∀ {Q : zz_O → zz_H → Prop} {x2 : Int64} {x4 : Int32} {x5 : Int32} {x6 : Int32} {x7 : Int32} {h : zz_H} {t t' : cS} {o : kY}, kR h t s → rc 0 x2 x4 x5 x6 x7 t = some (t', o) → (∀ h', kR h' t' s → kE o Q h') → zz_J zp_P zt_tf zt_fd X d zm_170 64 [(0, .ref 45), (1, .ref 42), (2, .long x2), (4, .int x4), (5, .int x5), (6, .int x6), (7, .int x7)] [] h Q) {Q : zz_O → zz_H → Prop} {x2 : Int64} {x4 : Int32} {x5 : Int32} {x6 : Int32} {x7 : Int32} {h : zz_H} {t t' : cS} {o : kY} (hR : kR h t s) (hf : cf_170_115 N X rk rc x2 x4 x5 x6 x7 t = some (t', o)) (k : (∀ h', kR h' t' s → kE o Q h')) : zz_J zp_P zt_tf zt_fd X d zm_170 115 [(0, .ref 45), (1, .ref 42), (2, .long x2), (4, .int x4), (5, .int x5), (6, .int x6), (7, .int x7)] [] h Q := by
  unfold cf_170_115 at hf
  exact cb_170_115 hR  (fun hR => hrc0 hR hf k)
def cf_170_108 (N : Nat) (X : Nat → Option zz_C) (rk : Nat → List Value → cS → kO) (rc : Nat → Int64 → Int32 → Int32 → Int32 → Int32 → cS → kO) (x2 : Int64) (x4 : Int32) (x5 : Int32) (x6 : Int32) (x7 : Int32) (y2 : Int64) (t : cS) : kO := ko_call 4 (rk 170 [.long y2, .int (x4 + 1)] t) (fun g1 v1 => co_v v1 (cf_170_115 N X rk rc x2 x4 x5 x6 x7 g1))
theorem cr_170_108 {X : Nat → Option zz_C} {s : mS} {N : Nat} {rk : Nat → List Value → cS → kO} {D : Nat} (hrk : cK2 X s D rk) (hB : 11 ≤ D) {d : Nat} (hd : D + 1 ≤ d) {rc : Nat → Int64 → Int32 → Int32 → Int32 → Int32 → cS → kO} (hrc0 : ∀ {Q : zz_O → zz_H → Prop} {x2 : Int64} {x4 : Int32} {x5 : Int32} {x6 : Int32} {x7 : Int32} {h : zz_H} {t t' : cS} {o : kY}, kR h t s → rc 0 x2 x4 x5 x6 x7 t = some (t', o) → (∀ h', kR h' t' s → kE o Q h') → zz_J zp_P zt_tf zt_fd X d zm_170 64 [(0, .ref 45), (1, .ref 42), (2, .long x2), (4, .int x4), (5, .int x5), (6, .int x6), (7, .int x7)] [] h Q) {Q : zz_O → zz_H → Prop} {x2 : Int64} {x4 : Int32} {x5 : Int32} {x6 : Int32} {x7 : Int32} {y2 : Int64} {h : zz_H} {t t' : cS} {o : kY} (hR : kR h t s) (hf : cf_170_108 N X rk rc x2 x4 x5 x6 x7 y2 t = some (t', o)) (k : (∀ h', kR h' t' s → kE o Q h')) : zz_J zp_P zt_tf zt_fd X d zm_170 108 [(0, .ref 45), (1, .ref 42), (2, .long x2), (4, .int x4), (5, .int x5), (6, .int x6), (7, .int x7)] [.long y2, .ref 42, .ref 45] h Q := by
  unfold cf_170_108 at hf
  obtain ⟨d', rfl⟩ : ∃ d', d = d' + 1 := ⟨d - 1, by omega⟩
  refine cb_170_108 hR  (fun {h} hR => ?_)
  rcases ko_call_ok hf with ⟨g1, v1, er, hf⟩ | ⟨g1, er, hq⟩
  · obtain ⟨hv, hf2⟩ := co_v_ok hf
    clear hf
    have hf := hf2
    clear hf2
    subst hv
    refine hrk (by omega) hR er (fun h hR => ?_)
    exact cr_170_115 hrk hB hd hrc0 hR hf k
  · refine hrk (by omega) hR er (fun h hR => ?_)
    exact ko_thrown hq hR k
def cf_170_99 (N : Nat) (X : Nat → Option zz_C) (rk : Nat → List Value → cS → kO) (rc : Nat → Int64 → Int32 → Int32 → Int32 → Int32 → cS → kO) (x2 : Int64) (x4 : Int32) (x5 : Int32) (x6 : Int32) (x7 : Int32) (t : cS) : kO := ko_call 2 (cf_129 N X x2 x7 t) (fun g1 v1 => co_l v1 (fun y => cf_170_108 N X rk rc x2 x4 x5 x6 x7 y g1))
theorem cr_170_99 {X : Nat → Option zz_C} {s : mS} {N : Nat} {rk : Nat → List Value → cS → kO} {D : Nat} (hrk : cK2 X s D rk) (hB : 11 ≤ D) {d : Nat} (hd : D + 1 ≤ d) {rc : Nat → Int64 → Int32 → Int32 → Int32 → Int32 → cS → kO} (hrc0 : ∀ {Q : zz_O → zz_H → Prop} {x2 : Int64} {x4 : Int32} {x5 : Int32} {x6 : Int32} {x7 : Int32} {h : zz_H} {t t' : cS} {o : kY}, kR h t s → rc 0 x2 x4 x5 x6 x7 t = some (t', o) → (∀ h', kR h' t' s → kE o Q h') → zz_J zp_P zt_tf zt_fd X d zm_170 64 [(0, .ref 45), (1, .ref 42), (2, .long x2), (4, .int x4), (5, .int x5), (6, .int x6), (7, .int x7)] [] h Q) {Q : zz_O → zz_H → Prop} {x2 : Int64} {x4 : Int32} {x5 : Int32} {x6 : Int32} {x7 : Int32} {h : zz_H} {t t' : cS} {o : kY} (hR : kR h t s) (hf : cf_170_99 N X rk rc x2 x4 x5 x6 x7 t = some (t', o)) (k : (∀ h', kR h' t' s → kE o Q h')) : zz_J zp_P zt_tf zt_fd X d zm_170 99 [(0, .ref 45), (1, .ref 42), (2, .long x2), (4, .int x4), (5, .int x5), (6, .int x6), (7, .int x7)] [] h Q := by
  unfold cf_170_99 at hf
  obtain ⟨d', rfl⟩ : ∃ d', d = d' + 1 := ⟨d - 1, by omega⟩
  refine cb_170_99 hR  (fun {h} hR => ?_)
  rcases ko_call_ok hf with ⟨g1, v1, er, hf⟩ | ⟨g1, er, hq⟩
  · obtain ⟨y, hv, hf2⟩ := co_l_ok hf
    clear hf
    have hf := hf2
    clear hf2
    subst hv
    refine cr_129 (by omega) hR er (fun h hR => ?_)
    exact cr_170_108 hrk hB hd hrc0 hR hf k
  · refine cr_129 (by omega) hR er (fun h hR => ?_)
    exact ko_thrown hq hR k
def cf_170_96 (N : Nat) (X : Nat → Option zz_C) (rk : Nat → List Value → cS → kO) (rc : Nat → Int64 → Int32 → Int32 → Int32 → Int32 → cS → kO) (x2 : Int64) (x4 : Int32) (x5 : Int32) (x6 : Int32) (x7 : Int32) (y1 : Int32) (t : cS) : kO := ko_call 4 (cf_171 N X y1 t) (fun g1 v1 => co_v v1 (cf_170_99 N X rk rc x2 x4 x5 x6 x7 g1))
theorem cr_170_96 {X : Nat → Option zz_C} {s : mS} {N : Nat} {rk : Nat → List Value → cS → kO} {D : Nat} (hrk : cK2 X s D rk) (hB : 11 ≤ D) {d : Nat} (hd : D + 1 ≤ d) {rc : Nat → Int64 → Int32 → Int32 → Int32 → Int32 → cS → kO} (hrc0 : ∀ {Q : zz_O → zz_H → Prop} {x2 : Int64} {x4 : Int32} {x5 : Int32} {x6 : Int32} {x7 : Int32} {h : zz_H} {t t' : cS} {o : kY}, kR h t s → rc 0 x2 x4 x5 x6 x7 t = some (t', o) → (∀ h', kR h' t' s → kE o Q h') → zz_J zp_P zt_tf zt_fd X d zm_170 64 [(0, .ref 45), (1, .ref 42), (2, .long x2), (4, .int x4), (5, .int x5), (6, .int x6), (7, .int x7)] [] h Q) {Q : zz_O → zz_H → Prop} {x2 : Int64} {x4 : Int32} {x5 : Int32} {x6 : Int32} {x7 : Int32} {y1 : Int32} {h : zz_H} {t t' : cS} {o : kY} (hR : kR h t s) (hf : cf_170_96 N X rk rc x2 x4 x5 x6 x7 y1 t = some (t', o)) (k : (∀ h', kR h' t' s → kE o Q h')) : zz_J zp_P zt_tf zt_fd X d zm_170 96 [(0, .ref 45), (1, .ref 42), (2, .long x2), (4, .int x4), (5, .int x5), (6, .int x6), (7, .int x7)] [.int y1, .ref 45] h Q := by
  unfold cf_170_96 at hf
  obtain ⟨d', rfl⟩ : ∃ d', d = d' + 1 := ⟨d - 1, by omega⟩
  refine cb_170_96 hR  (fun {h} hR => ?_)
  rcases ko_call_ok hf with ⟨g1, v1, er, hf⟩ | ⟨g1, er, hq⟩
  · obtain ⟨hv, hf2⟩ := co_v_ok hf
    clear hf
    have hf := hf2
    clear hf2
    subst hv
    refine cr_171 (by omega) hR er (fun h hR => ?_)
    exact cr_170_99 hrk hB hd hrc0 hR hf k
  · refine cr_171 (by omega) hR er (fun h hR => ?_)
    exact ko_thrown hq hR k
def cf_170_89 (N : Nat) (X : Nat → Option zz_C) (rk : Nat → List Value → cS → kO) (rc : Nat → Int64 → Int32 → Int32 → Int32 → Int32 → cS → kO) (x2 : Int64) (x4 : Int32) (x5 : Int32) (x6 : Int32) (x7 : Int32) (t : cS) : kO := cf_170_96 N X rk rc x2 x4 x5 x6 x7 32 t
theorem cr_170_89 {X : Nat → Option zz_C} {s : mS} {N : Nat} {rk : Nat → List Value → cS → kO} {D : Nat} (hrk : cK2 X s D rk) (hB : 11 ≤ D) {d : Nat} (hd : D + 1 ≤ d) {rc : Nat → Int64 → Int32 → Int32 → Int32 → Int32 → cS → kO} (hrc0 : ∀ {Q : zz_O → zz_H → Prop} {x2 : Int64} {x4 : Int32} {x5 : Int32} {x6 : Int32} {x7 : Int32} {h : zz_H} {t t' : cS} {o : kY}, kR h t s → rc 0 x2 x4 x5 x6 x7 t = some (t', o) → (∀ h', kR h' t' s → kE o Q h') → zz_J zp_P zt_tf zt_fd X d zm_170 64 [(0, .ref 45), (1, .ref 42), (2, .long x2), (4, .int x4), (5, .int x5), (6, .int x6), (7, .int x7)] [] h Q) {Q : zz_O → zz_H → Prop} {x2 : Int64} {x4 : Int32} {x5 : Int32} {x6 : Int32} {x7 : Int32} {h : zz_H} {t t' : cS} {o : kY} (hR : kR h t s) (hf : cf_170_89 N X rk rc x2 x4 x5 x6 x7 t = some (t', o)) (k : (∀ h', kR h' t' s → kE o Q h')) : zz_J zp_P zt_tf zt_fd X d zm_170 89 [(0, .ref 45), (1, .ref 42), (2, .long x2), (4, .int x4), (5, .int x5), (6, .int x6), (7, .int x7)] [.ref 45] h Q := by
  unfold cf_170_89 at hf
  exact cb_170_89 hR  (fun hR => cr_170_96 hrk hB hd hrc0 hR hf k)
def cf_170_94 (N : Nat) (X : Nat → Option zz_C) (rk : Nat → List Value → cS → kO) (rc : Nat → Int64 → Int32 → Int32 → Int32 → Int32 → cS → kO) (x2 : Int64) (x4 : Int32) (x5 : Int32) (x6 : Int32) (x7 : Int32) (t : cS) : kO := cf_170_96 N X rk rc x2 x4 x5 x6 x7 59 t
theorem cr_170_94 {X : Nat → Option zz_C} {s : mS} {N : Nat} {rk : Nat → List Value → cS → kO} {D : Nat} (hrk : cK2 X s D rk) (hB : 11 ≤ D) {d : Nat} (hd : D + 1 ≤ d) {rc : Nat → Int64 → Int32 → Int32 → Int32 → Int32 → cS → kO} (hrc0 : ∀ {Q : zz_O → zz_H → Prop} {x2 : Int64} {x4 : Int32} {x5 : Int32} {x6 : Int32} {x7 : Int32} {h : zz_H} {t t' : cS} {o : kY}, kR h t s → rc 0 x2 x4 x5 x6 x7 t = some (t', o) → (∀ h', kR h' t' s → kE o Q h') → zz_J zp_P zt_tf zt_fd X d zm_170 64 [(0, .ref 45), (1, .ref 42), (2, .long x2), (4, .int x4), (5, .int x5), (6, .int x6), (7, .int x7)] [] h Q) {Q : zz_O → zz_H → Prop} {x2 : Int64} {x4 : Int32} {x5 : Int32} {x6 : Int32} {x7 : Int32} {h : zz_H} {t t' : cS} {o : kY} (hR : kR h t s) (hf : cf_170_94 N X rk rc x2 x4 x5 x6 x7 t = some (t', o)) (k : (∀ h', kR h' t' s → kE o Q h')) : zz_J zp_P zt_tf zt_fd X d zm_170 94 [(0, .ref 45), (1, .ref 42), (2, .long x2), (4, .int x4), (5, .int x5), (6, .int x6), (7, .int x7)] [.ref 45] h Q := by
  unfold cf_170_94 at hf
  exact cb_170_94 hR  (fun hR => cr_170_96 hrk hB hd hrc0 hR hf k)
def cf_170_82 (N : Nat) (X : Nat → Option zz_C) (rk : Nat → List Value → cS → kO) (rc : Nat → Int64 → Int32 → Int32 → Int32 → Int32 → cS → kO) (x2 : Int64) (x4 : Int32) (x5 : Int32) (x6 : Int32) (x7 : Int32) (t : cS) : kO := if ¬ x5 = 1 then cf_170_94 N X rk rc x2 x4 x5 x6 x7 t else cf_170_89 N X rk rc x2 x4 x5 x6 x7 t
theorem cr_170_82 {X : Nat → Option zz_C} {s : mS} {N : Nat} {rk : Nat → List Value → cS → kO} {D : Nat} (hrk : cK2 X s D rk) (hB : 11 ≤ D) {d : Nat} (hd : D + 1 ≤ d) {rc : Nat → Int64 → Int32 → Int32 → Int32 → Int32 → cS → kO} (hrc0 : ∀ {Q : zz_O → zz_H → Prop} {x2 : Int64} {x4 : Int32} {x5 : Int32} {x6 : Int32} {x7 : Int32} {h : zz_H} {t t' : cS} {o : kY}, kR h t s → rc 0 x2 x4 x5 x6 x7 t = some (t', o) → (∀ h', kR h' t' s → kE o Q h') → zz_J zp_P zt_tf zt_fd X d zm_170 64 [(0, .ref 45), (1, .ref 42), (2, .long x2), (4, .int x4), (5, .int x5), (6, .int x6), (7, .int x7)] [] h Q) {Q : zz_O → zz_H → Prop} {x2 : Int64} {x4 : Int32} {x5 : Int32} {x6 : Int32} {x7 : Int32} {h : zz_H} {t t' : cS} {o : kY} (hR : kR h t s) (hf : cf_170_82 N X rk rc x2 x4 x5 x6 x7 t = some (t', o)) (k : (∀ h', kR h' t' s → kE o Q h')) : zz_J zp_P zt_tf zt_fd X d zm_170 82 [(0, .ref 45), (1, .ref 42), (2, .long x2), (4, .int x4), (5, .int x5), (6, .int x6), (7, .int x7)] [] h Q := by
  unfold cf_170_82 at hf
  refine cb_170_82 hR  (fun c {h} hR => ?_) (fun c {h} hR => ?_)
  · rw [if_pos c] at hf
    exact cr_170_94 hrk hB hd hrc0 hR hf k
  · rw [if_neg c] at hf
    exact cr_170_89 hrk hB hd hrc0 hR hf k
def cf_170_76 (N : Nat) (X : Nat → Option zz_C) (rk : Nat → List Value → cS → kO) (rc : Nat → Int64 → Int32 → Int32 → Int32 → Int32 → cS → kO) (x2 : Int64) (x4 : Int32) (x5 : Int32) (x6 : Int32) (x7 : Int32) (t : cS) : kO := if x5 = 2 then cf_170_99 N X rk rc x2 x4 x5 x6 x7 t else cf_170_82 N X rk rc x2 x4 x5 x6 x7 t
theorem cr_170_76 {X : Nat → Option zz_C} {s : mS} {N : Nat} {rk : Nat → List Value → cS → kO} {D : Nat} (hrk : cK2 X s D rk) (hB : 11 ≤ D) {d : Nat} (hd : D + 1 ≤ d) {rc : Nat → Int64 → Int32 → Int32 → Int32 → Int32 → cS → kO} (hrc0 : ∀ {Q : zz_O → zz_H → Prop} {x2 : Int64} {x4 : Int32} {x5 : Int32} {x6 : Int32} {x7 : Int32} {h : zz_H} {t t' : cS} {o : kY}, kR h t s → rc 0 x2 x4 x5 x6 x7 t = some (t', o) → (∀ h', kR h' t' s → kE o Q h') → zz_J zp_P zt_tf zt_fd X d zm_170 64 [(0, .ref 45), (1, .ref 42), (2, .long x2), (4, .int x4), (5, .int x5), (6, .int x6), (7, .int x7)] [] h Q) {Q : zz_O → zz_H → Prop} {x2 : Int64} {x4 : Int32} {x5 : Int32} {x6 : Int32} {x7 : Int32} {h : zz_H} {t t' : cS} {o : kY} (hR : kR h t s) (hf : cf_170_76 N X rk rc x2 x4 x5 x6 x7 t = some (t', o)) (k : (∀ h', kR h' t' s → kE o Q h')) : zz_J zp_P zt_tf zt_fd X d zm_170 76 [(0, .ref 45), (1, .ref 42), (2, .long x2), (4, .int x4), (5, .int x5), (6, .int x6), (7, .int x7)] [] h Q := by
  unfold cf_170_76 at hf
  refine cb_170_76 hR  (fun c {h} hR => ?_) (fun c {h} hR => ?_)
  · rw [if_pos c] at hf
    exact cr_170_99 hrk hB hd hrc0 hR hf k
  · rw [if_neg c] at hf
    exact cr_170_82 hrk hB hd hrc0 hR hf k
def cf_170_71 (N : Nat) (X : Nat → Option zz_C) (rk : Nat → List Value → cS → kO) (rc : Nat → Int64 → Int32 → Int32 → Int32 → Int32 → cS → kO) (x2 : Int64) (x4 : Int32) (x5 : Int32) (x6 : Int32) (x7 : Int32) (t : cS) : kO := if x7 ≤ 0 then cf_170_99 N X rk rc x2 x4 x5 x6 x7 t else cf_170_76 N X rk rc x2 x4 x5 x6 x7 t
theorem cr_170_71 {X : Nat → Option zz_C} {s : mS} {N : Nat} {rk : Nat → List Value → cS → kO} {D : Nat} (hrk : cK2 X s D rk) (hB : 11 ≤ D) {d : Nat} (hd : D + 1 ≤ d) {rc : Nat → Int64 → Int32 → Int32 → Int32 → Int32 → cS → kO} (hrc0 : ∀ {Q : zz_O → zz_H → Prop} {x2 : Int64} {x4 : Int32} {x5 : Int32} {x6 : Int32} {x7 : Int32} {h : zz_H} {t t' : cS} {o : kY}, kR h t s → rc 0 x2 x4 x5 x6 x7 t = some (t', o) → (∀ h', kR h' t' s → kE o Q h') → zz_J zp_P zt_tf zt_fd X d zm_170 64 [(0, .ref 45), (1, .ref 42), (2, .long x2), (4, .int x4), (5, .int x5), (6, .int x6), (7, .int x7)] [] h Q) {Q : zz_O → zz_H → Prop} {x2 : Int64} {x4 : Int32} {x5 : Int32} {x6 : Int32} {x7 : Int32} {h : zz_H} {t t' : cS} {o : kY} (hR : kR h t s) (hf : cf_170_71 N X rk rc x2 x4 x5 x6 x7 t = some (t', o)) (k : (∀ h', kR h' t' s → kE o Q h')) : zz_J zp_P zt_tf zt_fd X d zm_170 71 [(0, .ref 45), (1, .ref 42), (2, .long x2), (4, .int x4), (5, .int x5), (6, .int x6), (7, .int x7)] [] h Q := by
  unfold cf_170_71 at hf
  refine cb_170_71 hR  (fun c {h} hR => ?_) (fun c {h} hR => ?_)
  · rw [if_pos c] at hf
    exact cr_170_99 hrk hB hd hrc0 hR hf k
  · rw [if_neg c] at hf
    exact cr_170_76 hrk hB hd hrc0 hR hf k
def cf_170_64 (N : Nat) (X : Nat → Option zz_C) (rk : Nat → List Value → cS → kO) (rc : Nat → Int64 → Int32 → Int32 → Int32 → Int32 → cS → kO) (x2 : Int64) (x4 : Int32) (x5 : Int32) (x6 : Int32) (x7 : Int32) (t : cS) : kO := if x6 ≤ x7 then cf_170_121 N X rk x5 t else cf_170_71 N X rk rc x2 x4 x5 x6 x7 t
theorem cr_170_64 {X : Nat → Option zz_C} {s : mS} {N : Nat} {rk : Nat → List Value → cS → kO} {D : Nat} (hrk : cK2 X s D rk) (hB : 11 ≤ D) {d : Nat} (hd : D + 1 ≤ d) {rc : Nat → Int64 → Int32 → Int32 → Int32 → Int32 → cS → kO} (hrc0 : ∀ {Q : zz_O → zz_H → Prop} {x2 : Int64} {x4 : Int32} {x5 : Int32} {x6 : Int32} {x7 : Int32} {h : zz_H} {t t' : cS} {o : kY}, kR h t s → rc 0 x2 x4 x5 x6 x7 t = some (t', o) → (∀ h', kR h' t' s → kE o Q h') → zz_J zp_P zt_tf zt_fd X d zm_170 64 [(0, .ref 45), (1, .ref 42), (2, .long x2), (4, .int x4), (5, .int x5), (6, .int x6), (7, .int x7)] [] h Q) {Q : zz_O → zz_H → Prop} {x2 : Int64} {x4 : Int32} {x5 : Int32} {x6 : Int32} {x7 : Int32} {h : zz_H} {t t' : cS} {o : kY} (hR : kR h t s) (hf : cf_170_64 N X rk rc x2 x4 x5 x6 x7 t = some (t', o)) (k : (∀ h', kR h' t' s → kE o Q h')) : zz_J zp_P zt_tf zt_fd X d zm_170 64 [(0, .ref 45), (1, .ref 42), (2, .long x2), (4, .int x4), (5, .int x5), (6, .int x6), (7, .int x7)] [] h Q := by
  unfold cf_170_64 at hf
  refine cb_170_64 hR  (fun c {h} hR => ?_) (fun c {h} hR => ?_)
  · rw [if_pos c] at hf
    exact cr_170_121 hrk hB hd hR hf k
  · rw [if_neg c] at hf
    exact cr_170_71 hrk hB hd hrc0 hR hf k
def cf_170_L10 (N : Nat) (X : Nat → Option zz_C) (rk : Nat → List Value → cS → kO) : Nat → Nat → Int64 → Int32 → Int32 → Int32 → Int32 → cS → kO
  | 0, _, _, _, _, _, _, _ => none
  | n + 1, l, x2, x4, x5, x6, x7, t => if l = 0 then cf_170_64 N X rk (cf_170_L10 N X rk n) x2 x4 x5 x6 x7 t else none
theorem cr_170_L10 {X : Nat → Option zz_C} {s : mS} {N : Nat} {rk : Nat → List Value → cS → kO} {D : Nat} (hrk : cK2 X s D rk) (hB : 11 ≤ D) {d : Nat} (hd : D + 1 ≤ d) : ∀ n : Nat, (∀ {Q : zz_O → zz_H → Prop} {x2 : Int64} {x4 : Int32} {x5 : Int32} {x6 : Int32} {x7 : Int32} {h : zz_H} {t t' : cS} {o : kY}, kR h t s → cf_170_L10 N X rk n 0 x2 x4 x5 x6 x7 t = some (t', o) → (∀ h', kR h' t' s → kE o Q h') → zz_J zp_P zt_tf zt_fd X d zm_170 64 [(0, .ref 45), (1, .ref 42), (2, .long x2), (4, .int x4), (5, .int x5), (6, .int x6), (7, .int x7)] [] h Q) := by
  intro n
  induction n with
  | zero => exact (fun _ hf _ => by cases hf)
  | succ n ih =>
    have h0 := @ih
    intro Q _ _ _ _ _ h t t' o hR hf k
    unfold cf_170_L10 at hf
    rw [if_pos rfl] at hf
    exact cr_170_64 hrk hB hd h0 hR hf k
def cf_170_61 (N : Nat) (X : Nat → Option zz_C) (rk : Nat → List Value → cS → kO) (x2 : Int64) (x4 : Int32) (x5 : Int32) (x6 : Int32) (t : cS) : kO := cf_170_L10 N X rk N 0 x2 x4 x5 x6 0 t
theorem cr_170_61 {X : Nat → Option zz_C} {s : mS} {N : Nat} {rk : Nat → List Value → cS → kO} {D : Nat} (hrk : cK2 X s D rk) (hB : 11 ≤ D) {d : Nat} (hd : D + 1 ≤ d) {Q : zz_O → zz_H → Prop} {x2 : Int64} {x4 : Int32} {x5 : Int32} {x6 : Int32} {h : zz_H} {t t' : cS} {o : kY} (hR : kR h t s) (hf : cf_170_61 N X rk x2 x4 x5 x6 t = some (t', o)) (k : (∀ h', kR h' t' s → kE o Q h')) : zz_J zp_P zt_tf zt_fd X d zm_170 61 [(0, .ref 45), (1, .ref 42), (2, .long x2), (4, .int x4), (5, .int x5), (6, .int x6)] [] h Q := by
  unfold cf_170_61 at hf
  exact cb_170_61 hR  (fun hR => cr_170_L10 hrk hB hd N hR hf k)
def cf_170_58 (N : Nat) (X : Nat → Option zz_C) (rk : Nat → List Value → cS → kO) (x2 : Int64) (x4 : Int32) (x5 : Int32) (x6 : Int32) (y1 : Int32) (t : cS) : kO := ko_call 4 (cf_171 N X y1 t) (fun g1 v1 => co_v v1 (cf_170_61 N X rk x2 x4 x5 x6 g1))
theorem cr_170_58 {X : Nat → Option zz_C} {s : mS} {N : Nat} {rk : Nat → List Value → cS → kO} {D : Nat} (hrk : cK2 X s D rk) (hB : 11 ≤ D) {d : Nat} (hd : D + 1 ≤ d) {Q : zz_O → zz_H → Prop} {x2 : Int64} {x4 : Int32} {x5 : Int32} {x6 : Int32} {y1 : Int32} {h : zz_H} {t t' : cS} {o : kY} (hR : kR h t s) (hf : cf_170_58 N X rk x2 x4 x5 x6 y1 t = some (t', o)) (k : (∀ h', kR h' t' s → kE o Q h')) : zz_J zp_P zt_tf zt_fd X d zm_170 58 [(0, .ref 45), (1, .ref 42), (2, .long x2), (4, .int x4), (5, .int x5), (6, .int x6)] [.int y1, .ref 45] h Q := by
  unfold cf_170_58 at hf
  obtain ⟨d', rfl⟩ : ∃ d', d = d' + 1 := ⟨d - 1, by omega⟩
  refine cb_170_58 hR  (fun {h} hR => ?_)
  rcases ko_call_ok hf with ⟨g1, v1, er, hf⟩ | ⟨g1, er, hq⟩
  · obtain ⟨hv, hf2⟩ := co_v_ok hf
    clear hf
    have hf := hf2
    clear hf2
    subst hv
    refine cr_171 (by omega) hR er (fun h hR => ?_)
    exact cr_170_61 hrk hB hd hR hf k
  · refine cr_171 (by omega) hR er (fun h hR => ?_)
    exact ko_thrown hq hR k
def cf_170_56 (N : Nat) (X : Nat → Option zz_C) (rk : Nat → List Value → cS → kO) (x2 : Int64) (x4 : Int32) (x5 : Int32) (x6 : Int32) (t : cS) : kO := cf_170_58 N X rk x2 x4 x5 x6 40 t
theorem cr_170_56 {X : Nat → Option zz_C} {s : mS} {N : Nat} {rk : Nat → List Value → cS → kO} {D : Nat} (hrk : cK2 X s D rk) (hB : 11 ≤ D) {d : Nat} (hd : D + 1 ≤ d) {Q : zz_O → zz_H → Prop} {x2 : Int64} {x4 : Int32} {x5 : Int32} {x6 : Int32} {h : zz_H} {t t' : cS} {o : kY} (hR : kR h t s) (hf : cf_170_56 N X rk x2 x4 x5 x6 t = some (t', o)) (k : (∀ h', kR h' t' s → kE o Q h')) : zz_J zp_P zt_tf zt_fd X d zm_170 56 [(0, .ref 45), (1, .ref 42), (2, .long x2), (4, .int x4), (5, .int x5), (6, .int x6)] [.ref 45] h Q := by
  unfold cf_170_56 at hf
  exact cb_170_56 hR  (fun hR => cr_170_58 hrk hB hd hR hf k)
def cf_170_51 (N : Nat) (X : Nat → Option zz_C) (rk : Nat → List Value → cS → kO) (x2 : Int64) (x4 : Int32) (x5 : Int32) (x6 : Int32) (t : cS) : kO := cf_170_58 N X rk x2 x4 x5 x6 123 t
theorem cr_170_51 {X : Nat → Option zz_C} {s : mS} {N : Nat} {rk : Nat → List Value → cS → kO} {D : Nat} (hrk : cK2 X s D rk) (hB : 11 ≤ D) {d : Nat} (hd : D + 1 ≤ d) {Q : zz_O → zz_H → Prop} {x2 : Int64} {x4 : Int32} {x5 : Int32} {x6 : Int32} {h : zz_H} {t t' : cS} {o : kY} (hR : kR h t s) (hf : cf_170_51 N X rk x2 x4 x5 x6 t = some (t', o)) (k : (∀ h', kR h' t' s → kE o Q h')) : zz_J zp_P zt_tf zt_fd X d zm_170 51 [(0, .ref 45), (1, .ref 42), (2, .long x2), (4, .int x4), (5, .int x5), (6, .int x6)] [.ref 45] h Q := by
  unfold cf_170_51 at hf
  exact cb_170_51 hR  (fun hR => cr_170_58 hrk hB hd hR hf k)
def cf_170_45 (N : Nat) (X : Nat → Option zz_C) (rk : Nat → List Value → cS → kO) (x2 : Int64) (x4 : Int32) (x5 : Int32) (x6 : Int32) (t : cS) : kO := if ¬ x5 = 2 then cf_170_56 N X rk x2 x4 x5 x6 t else cf_170_51 N X rk x2 x4 x5 x6 t
theorem cr_170_45 {X : Nat → Option zz_C} {s : mS} {N : Nat} {rk : Nat → List Value → cS → kO} {D : Nat} (hrk : cK2 X s D rk) (hB : 11 ≤ D) {d : Nat} (hd : D + 1 ≤ d) {Q : zz_O → zz_H → Prop} {x2 : Int64} {x4 : Int32} {x5 : Int32} {x6 : Int32} {h : zz_H} {t t' : cS} {o : kY} (hR : kR h t s) (hf : cf_170_45 N X rk x2 x4 x5 x6 t = some (t', o)) (k : (∀ h', kR h' t' s → kE o Q h')) : zz_J zp_P zt_tf zt_fd X d zm_170 45 [(0, .ref 45), (1, .ref 42), (2, .long x2), (4, .int x4), (5, .int x5), (6, .int x6)] [.ref 45] h Q := by
  unfold cf_170_45 at hf
  refine cb_170_45 hR  (fun c {h} hR => ?_) (fun c {h} hR => ?_)
  · rw [if_pos c] at hf
    exact cr_170_56 hrk hB hd hR hf k
  · rw [if_neg c] at hf
    exact cr_170_51 hrk hB hd hR hf k
def cf_170_40 (N : Nat) (X : Nat → Option zz_C) (rk : Nat → List Value → cS → kO) (x2 : Int64) (x4 : Int32) (x5 : Int32) (x6 : Int32) (t : cS) : kO := cf_170_58 N X rk x2 x4 x5 x6 91 t
theorem cr_170_40 {X : Nat → Option zz_C} {s : mS} {N : Nat} {rk : Nat → List Value → cS → kO} {D : Nat} (hrk : cK2 X s D rk) (hB : 11 ≤ D) {d : Nat} (hd : D + 1 ≤ d) {Q : zz_O → zz_H → Prop} {x2 : Int64} {x4 : Int32} {x5 : Int32} {x6 : Int32} {h : zz_H} {t t' : cS} {o : kY} (hR : kR h t s) (hf : cf_170_40 N X rk x2 x4 x5 x6 t = some (t', o)) (k : (∀ h', kR h' t' s → kE o Q h')) : zz_J zp_P zt_tf zt_fd X d zm_170 40 [(0, .ref 45), (1, .ref 42), (2, .long x2), (4, .int x4), (5, .int x5), (6, .int x6)] [.ref 45] h Q := by
  unfold cf_170_40 at hf
  exact cb_170_40 hR  (fun hR => cr_170_58 hrk hB hd hR hf k)
def cf_170_31 (N : Nat) (X : Nat → Option zz_C) (rk : Nat → List Value → cS → kO) (x2 : Int64) (x4 : Int32) (x5 : Int32) (y0 : Int32) (t : cS) : kO := if ¬ x5 = 1 then cf_170_45 N X rk x2 x4 x5 y0 t else cf_170_40 N X rk x2 x4 x5 y0 t
theorem cr_170_31 {X : Nat → Option zz_C} {s : mS} {N : Nat} {rk : Nat → List Value → cS → kO} {D : Nat} (hrk : cK2 X s D rk) (hB : 11 ≤ D) {d : Nat} (hd : D + 1 ≤ d) {Q : zz_O → zz_H → Prop} {x2 : Int64} {x4 : Int32} {x5 : Int32} {y0 : Int32} {h : zz_H} {t t' : cS} {o : kY} (hR : kR h t s) (hf : cf_170_31 N X rk x2 x4 x5 y0 t = some (t', o)) (k : (∀ h', kR h' t' s → kE o Q h')) : zz_J zp_P zt_tf zt_fd X d zm_170 31 [(0, .ref 45), (1, .ref 42), (2, .long x2), (4, .int x4), (5, .int x5)] [.int y0] h Q := by
  unfold cf_170_31 at hf
  refine cb_170_31 hR  (fun c {h} hR => ?_) (fun c {h} hR => ?_)
  · rw [if_pos c] at hf
    exact cr_170_45 hrk hB hd hR hf k
  · rw [if_neg c] at hf
    exact cr_170_40 hrk hB hd hR hf k
def cf_170_26 (N : Nat) (X : Nat → Option zz_C) (rk : Nat → List Value → cS → kO) (x2 : Int64) (x4 : Int32) (x5 : Int32) (t : cS) : kO := ko_call 2 (cf_128 N X x2 t) (fun g1 v1 => co_i v1 (fun y => cf_170_31 N X rk x2 x4 x5 y g1))
theorem cr_170_26 {X : Nat → Option zz_C} {s : mS} {N : Nat} {rk : Nat → List Value → cS → kO} {D : Nat} (hrk : cK2 X s D rk) (hB : 11 ≤ D) {d : Nat} (hd : D + 1 ≤ d) {Q : zz_O → zz_H → Prop} {x2 : Int64} {x4 : Int32} {x5 : Int32} {h : zz_H} {t t' : cS} {o : kY} (hR : kR h t s) (hf : cf_170_26 N X rk x2 x4 x5 t = some (t', o)) (k : (∀ h', kR h' t' s → kE o Q h')) : zz_J zp_P zt_tf zt_fd X d zm_170 26 [(0, .ref 45), (1, .ref 42), (2, .long x2), (4, .int x4), (5, .int x5)] [] h Q := by
  unfold cf_170_26 at hf
  obtain ⟨d', rfl⟩ : ∃ d', d = d' + 1 := ⟨d - 1, by omega⟩
  refine cb_170_26 hR  (fun {h} hR => ?_)
  rcases ko_call_ok hf with ⟨g1, v1, er, hf⟩ | ⟨g1, er, hq⟩
  · obtain ⟨y, hv, hf2⟩ := co_i_ok hf
    clear hf
    have hf := hf2
    clear hf2
    subst hv
    refine cr_128 (by omega) hR er (fun h hR => ?_)
    exact cr_170_31 hrk hB hd hR hf k
  · refine cr_128 (by omega) hR er (fun h hR => ?_)
    exact ko_thrown hq hR k
def cf_170_11 (N : Nat) (X : Nat → Option zz_C) (rk : Nat → List Value → cS → kO) (x2 : Int64) (x4 : Int32) (x5 : Int32) (t : cS) : kO := if x4 ≤ 5 then cf_170_26 N X rk x2 x4 x5 t else cf_170_17 N X rk x2 t
theorem cr_170_11 {X : Nat → Option zz_C} {s : mS} {N : Nat} {rk : Nat → List Value → cS → kO} {D : Nat} (hrk : cK2 X s D rk) (hB : 11 ≤ D) {d : Nat} (hd : D + 1 ≤ d) {Q : zz_O → zz_H → Prop} {x2 : Int64} {x4 : Int32} {x5 : Int32} {h : zz_H} {t t' : cS} {o : kY} (hR : kR h t s) (hf : cf_170_11 N X rk x2 x4 x5 t = some (t', o)) (k : (∀ h', kR h' t' s → kE o Q h')) : zz_J zp_P zt_tf zt_fd X d zm_170 11 [(0, .ref 45), (1, .ref 42), (2, .long x2), (4, .int x4), (5, .int x5)] [] h Q := by
  unfold cf_170_11 at hf
  refine cb_170_11 hR  (fun c {h} hR => ?_) (fun c {h} hR => ?_)
  · rw [if_pos c] at hf
    exact cr_170_26 hrk hB hd hR hf k
  · rw [if_neg c] at hf
    exact cr_170_17 hrk hB hd hR hf k
def cf_170_4 (N : Nat) (X : Nat → Option zz_C) (rk : Nat → List Value → cS → kO) (x2 : Int64) (x4 : Int32) (y0 : Int32) (t : cS) : kO := if y0 = 0 then cf_170_17 N X rk x2 t else cf_170_11 N X rk x2 x4 y0 t
theorem cr_170_4 {X : Nat → Option zz_C} {s : mS} {N : Nat} {rk : Nat → List Value → cS → kO} {D : Nat} (hrk : cK2 X s D rk) (hB : 11 ≤ D) {d : Nat} (hd : D + 1 ≤ d) {Q : zz_O → zz_H → Prop} {x2 : Int64} {x4 : Int32} {y0 : Int32} {h : zz_H} {t t' : cS} {o : kY} (hR : kR h t s) (hf : cf_170_4 N X rk x2 x4 y0 t = some (t', o)) (k : (∀ h', kR h' t' s → kE o Q h')) : zz_J zp_P zt_tf zt_fd X d zm_170 4 [(0, .ref 45), (1, .ref 42), (2, .long x2), (4, .int x4)] [.int y0] h Q := by
  unfold cf_170_4 at hf
  refine cb_170_4 hR  (fun c {h} hR => ?_) (fun c {h} hR => ?_)
  · rw [if_pos c] at hf
    exact cr_170_17 hrk hB hd hR hf k
  · rw [if_neg c] at hf
    exact cr_170_11 hrk hB hd hR hf k
def cf_170_0 (N : Nat) (X : Nat → Option zz_C) (rk : Nat → List Value → cS → kO) (x2 : Int64) (x4 : Int32) (t : cS) : kO := ko_call 1000 (cf_255 N X x2 t) (fun g1 v1 => co_i v1 (fun y => cf_170_4 N X rk x2 x4 y g1))
theorem cr_170_0 {X : Nat → Option zz_C} {s : mS} {N : Nat} {rk : Nat → List Value → cS → kO} {D : Nat} (hrk : cK2 X s D rk) (hB : 11 ≤ D) {d : Nat} (hd : D + 1 ≤ d) {Q : zz_O → zz_H → Prop} {x2 : Int64} {x4 : Int32} {h : zz_H} {t t' : cS} {o : kY} (hR : kR h t s) (hf : cf_170_0 N X rk x2 x4 t = some (t', o)) (k : (∀ h', kR h' t' s → kE o Q h')) : zz_J zp_P zt_tf zt_fd X d zm_170 0 [(0, .ref 45), (1, .ref 42), (2, .long x2), (4, .int x4)] [] h Q := by
  unfold cf_170_0 at hf
  obtain ⟨d', rfl⟩ : ∃ d', d = d' + 1 := ⟨d - 1, by omega⟩
  refine cb_170_0 hR  (fun {h} hR => ?_)
  rcases ko_call_ok hf with ⟨g1, v1, er, hf⟩ | ⟨g1, er, hq⟩
  · obtain ⟨y, hv, hf2⟩ := co_i_ok hf
    clear hf
    have hf := hf2
    clear hf2
    subst hv
    refine cr_255 (by omega) hR er (fun h hR => ?_)
    exact cr_170_4 hrk hB hd hR hf k
  · refine cr_255 (by omega) hR er (fun h hR => ?_)
    exact ko_thrown hq hR k
/-- form -/
def cf_170 (N : Nat) (X : Nat → Option zz_C) (rk : Nat → List Value → cS → kO) (x2 : Int64) (x4 : Int32) (t : cS) : kO := cf_170_0 N X rk x2 x4 t
theorem cr_170 {X : Nat → Option zz_C} {s : mS} {N : Nat} {rk : Nat → List Value → cS → kO} {D : Nat} (hrk : cK2 X s D rk) (hB : 11 ≤ D) {d : Nat} (hd : D + 1 ≤ d) {Q : zz_O → zz_H → Prop} {x2 : Int64} {x4 : Int32} {h : zz_H} {t t' : cS} {o : kY} (hR : kR h t s) (hf : cf_170 N X rk x2 x4 t = some (t', o)) (k : ∀ h', kR h' t' s → kE o Q h') : zz_J zp_P zt_tf zt_fd X d zm_170 0 [(0, .ref 45), (1, .ref 42), (2, .long x2), (4, .int x4)] [] h Q := by
  unfold cf_170 at hf
  exact zz_J.weak (cr_170_0 hrk hB hd hR hf k) rfl ⟨rfl, rfl, rfl, rfl, trivial⟩
def cf_S2 (N : Nat) (X : Nat → Option zz_C) : Nat → Nat → List Value → cS → kO
  | 0, _, _, _ => none
  | n + 1, id, as, t => if id = 170 then (match as with
    | [.long x2, .int x4] => cf_170 N X (cf_S2 N X n) x2 x4 t
    | _ => none) else none
theorem cr_S2 {X : Nat → Option zz_C} {s : mS} {N : Nat} : ∀ n : Nat, cK2 X s (11 + n) (cf_S2 N X n) := by
  intro n
  induction n with
  | zero =>
    intro d _ Q _ _ h t t' o _ hf _
    cases hf
  | succ n ih =>
    intro d hd Q _ _ h t t' o hR hf k
    unfold cf_S2 at hf
    rw [if_pos rfl] at hf
    exact cr_170 (D := 11 + n) ih (Nat.le_add_right _ _) (by omega) hR hf k
/-! yX4_tell (LTallySlate$Heap;J)V -/
theorem cb_169_0 {X : Nat → Option zz_C} {h : zz_H} {t : cS} {s : mS} {d : Nat} {Q : zz_O → zz_H → Prop} {x2 : Int64} (hR : kR h t s) (k : ∀ {h : zz_H}, kR h t s → zz_J zp_P zt_tf zt_fd X d zm_170 0 [(0, .ref 45), (1, .ref 42), (2, .long x2), (4, .int 0)] [] h (zz_after 4 Q (fun v h' => zz_J zp_P zt_tf zt_fd X (d + 1) zm_169 7 [] (v.toList ++ []) h' Q))) : zz_J zp_P zt_tf zt_fd X (d + 1) zm_169 0 [(0, .ref 45), (1, .ref 42), (2, .long x2)] [] h Q := by
  refine zz_J.n 1 rfl rfl rfl ?_
  refine zz_J.n 2 rfl rfl rfl ?_
  refine zz_J.n 3 rfl rfl rfl ?_
  refine zz_J.c 4 (.int 0) rfl rfl rfl rfl ?_
  refine zz_J.cv 7 (as := []) rfl rfl (hR.clO ko_45 (by decide) (by decide)) (by decide) (Nat.le_of_ble_eq_true rfl) (Nat.le_of_ble_eq_true rfl) rfl (Nat.le_of_ble_eq_true rfl) rfl ?_
  refine zz_J.mono (k hR) ?_
  intro o h' hE
  cases o with
  | inl v => exact zz_J.weak hE rfl trivial
  | inr q => exact hE
theorem cb_169_7 {X : Nat → Option zz_C} {h : zz_H} {t : cS} {s : mS} {d : Nat} {Q : zz_O → zz_H → Prop}  (hR : kR h t s) (k : ∀ {h : zz_H}, kR h t s → Q (.inl none) h) : zz_J zp_P zt_tf zt_fd X d zm_169 7 [] [] h Q := by
  refine zz_J.ret rfl rfl rfl ?_
  exact k hR
def cf_169_7 (N : Nat) (X : Nat → Option zz_C)  (t : cS) : kO := some (t, .inl none)
theorem cr_169_7 {X : Nat → Option zz_C} {s : mS} {N : Nat} {d : Nat} (hd : 24 ≤ d) {Q : zz_O → zz_H → Prop}  {h : zz_H} {t t' : cS} {o : kY} (hR : kR h t s) (hf : cf_169_7 N X  t = some (t', o)) (k : (∀ h', kR h' t' s → kE o Q h')) : zz_J zp_P zt_tf zt_fd X d zm_169 7 [] [] h Q := by
  unfold cf_169_7 at hf
  cases hf
  exact cb_169_7 hR  (fun {h} hR => k h hR)
def cf_169_0 (N : Nat) (X : Nat → Option zz_C) (x2 : Int64) (t : cS) : kO := ko_call 4 (cf_S2 N X 12 170 [.long x2, .int 0] t) (fun g1 v1 => co_v v1 (cf_169_7 N X  g1))
theorem cr_169_0 {X : Nat → Option zz_C} {s : mS} {N : Nat} {d : Nat} (hd : 24 ≤ d) {Q : zz_O → zz_H → Prop} {x2 : Int64} {h : zz_H} {t t' : cS} {o : kY} (hR : kR h t s) (hf : cf_169_0 N X x2 t = some (t', o)) (k : (∀ h', kR h' t' s → kE o Q h')) : zz_J zp_P zt_tf zt_fd X d zm_169 0 [(0, .ref 45), (1, .ref 42), (2, .long x2)] [] h Q := by
  unfold cf_169_0 at hf
  obtain ⟨d', rfl⟩ : ∃ d', d = d' + 1 := ⟨d - 1, by omega⟩
  refine cb_169_0 hR  (fun {h} hR => ?_)
  rcases ko_call_ok hf with ⟨g1, v1, er, hf⟩ | ⟨g1, er, hq⟩
  · obtain ⟨hv, hf2⟩ := co_v_ok hf
    clear hf
    have hf := hf2
    clear hf2
    subst hv
    refine (cr_S2 12) (by omega) hR er (fun h hR => ?_)
    exact cr_169_7 hd hR hf k
  · refine (cr_S2 12) (by omega) hR er (fun h hR => ?_)
    exact ko_thrown hq hR k
/-- tell -/
def cf_169 (N : Nat) (X : Nat → Option zz_C) (x2 : Int64) (t : cS) : kO := cf_169_0 N X x2 t
theorem cr_169 {X : Nat → Option zz_C} {s : mS} {N : Nat} {d : Nat} (hd : 24 ≤ d) {Q : zz_O → zz_H → Prop} {x2 : Int64} {h : zz_H} {t t' : cS} {o : kY} (hR : kR h t s) (hf : cf_169 N X x2 t = some (t', o)) (k : ∀ h', kR h' t' s → kE o Q h') : zz_J zp_P zt_tf zt_fd X d zm_169 0 [(0, .ref 45), (1, .ref 42), (2, .long x2)] [] h Q := by
  unfold cf_169 at hf
  exact zz_J.weak (cr_169_0 hd hR hf k) rfl ⟨rfl, rfl, rfl, trivial⟩
