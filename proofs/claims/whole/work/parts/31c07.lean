/-! yX10_scanWord ([BII)I -/
theorem cb_245_0 {X : Nat → Option zz_C} {h : zz_H} {t : cS} {s : mS} {d : Nat} {Q : zz_O → zz_H → Prop} {x1 : Nat} {x2 : Int32} {x3 : Int32} (hR : kR h t s) (k : ∀ {h : zz_H}, kR h t s → zz_J zp_P zt_tf zt_fd X d zm_245 6 [(0, .ref 3), (1, .ref x1), (2, .int x2), (3, .int x3), (4, .long 0), (6, .int x3)] [] h Q) : zz_J zp_P zt_tf zt_fd X d zm_245 0 [(0, .ref 3), (1, .ref x1), (2, .int x2), (3, .int x3)] [] h Q := by
  refine zz_J.c 1 (.long 0) rfl rfl rfl rfl ?_
  refine zz_J.n 3 rfl rfl rfl ?_
  refine zz_J.n 4 rfl rfl rfl ?_
  refine zz_J.n 6 rfl rfl rfl ?_
  exact zz_J.weak (k hR) rfl ⟨rfl, rfl, rfl, rfl, rfl, rfl, trivial⟩
theorem cb_245_6 {X : Nat → Option zz_C} {h : zz_H} {t : cS} {s : mS} {d : Nat} {Q : zz_O → zz_H → Prop} {x1 : Nat} {x2 : Int32} {x3 : Int32} {x4 : Int64} {x6 : Int32} (hR : kR h t s) (k1 : x2 ≤ x6 → (∀ {h : zz_H}, kR h t s → zz_J zp_P zt_tf zt_fd X d zm_245 54 [(0, .ref 3), (3, .int x3), (4, .long x4), (6, .int x6)] [] h Q)) (k2 : ¬ x2 ≤ x6 → (∀ {h : zz_H}, kR h t s → zz_J zp_P zt_tf zt_fd X d zm_245 12 [(0, .ref 3), (1, .ref x1), (2, .int x2), (3, .int x3), (4, .long x4), (6, .int x6)] [] h Q)) : zz_J zp_P zt_tf zt_fd X d zm_245 6 [(0, .ref 3), (1, .ref x1), (2, .int x2), (3, .int x3), (4, .long x4), (6, .int x6)] [] h Q := by
  refine zz_J.n 8 rfl rfl rfl ?_
  refine zz_J.n 9 rfl rfl rfl ?_
  refine zz_J.b2 54 12 (A := x2 ≤ x6) rfl rfl (by decide) rfl rfl (fun c => ?_) (fun c => ?_)
  · exact zz_J.weak (k1 c hR) rfl ⟨rfl, rfl, rfl, rfl, trivial⟩
  · exact zz_J.weak (k2 c hR) rfl ⟨rfl, rfl, rfl, rfl, rfl, rfl, trivial⟩
theorem cb_245_12 {X : Nat → Option zz_C} {h : zz_H} {t : cS} {s : mS} {d : Nat} {Q : zz_O → zz_H → Prop} {x1 : Nat} {x2 : Int32} {x3 : Int32} {x4 : Int64} {x6 : Int32} (hR : kR h t s) (e0 : kD t 1 = x1) (e1 : ¬ (x6 < 0 ∨ (kA t 1).1 ≤ (Int32.toNatClampNeg x6))) (k1 : ((kA t 1).2 (Int32.toNatClampNeg x6)) < 97 → (∀ {h : zz_H}, kR h t s → zz_J zp_P zt_tf zt_fd X d zm_245 54 [(0, .ref 3), (3, .int x3), (4, .long x4), (6, .int x6)] [] h Q)) (k2 : ¬ ((kA t 1).2 (Int32.toNatClampNeg x6)) < 97 → (∀ {h : zz_H}, kR h t s → zz_J zp_P zt_tf zt_fd X d zm_245 21 [(0, .ref 3), (1, .ref x1), (2, .int x2), (3, .int x3), (4, .long x4), (6, .int x6)] [] h Q)) : zz_J zp_P zt_tf zt_fd X d zm_245 12 [(0, .ref 3), (1, .ref x1), (2, .int x2), (3, .int x3), (4, .long x4), (6, .int x6)] [] h Q := by
  refine zz_J.n 13 rfl rfl rfl ?_
  refine zz_J.n 15 rfl rfl rfl ?_
  refine zz_J.ab 16 rfl (hR.ab (w := ((kA t 1).2 (Int32.toNatClampNeg x6))) ka_1 e0 (by decide) e1 rfl) rfl ?_
  refine zz_J.c 18 (.int 97) rfl rfl rfl rfl ?_
  refine zz_J.b2 54 21 (A := ((kA t 1).2 (Int32.toNatClampNeg x6)) < 97) rfl rfl (by decide) rfl rfl (fun c => ?_) (fun c => ?_)
  · exact zz_J.weak (k1 c hR) rfl ⟨rfl, rfl, rfl, rfl, trivial⟩
  · exact zz_J.weak (k2 c hR) rfl ⟨rfl, rfl, rfl, rfl, rfl, rfl, trivial⟩
theorem cb_245_21 {X : Nat → Option zz_C} {h : zz_H} {t : cS} {s : mS} {d : Nat} {Q : zz_O → zz_H → Prop} {x1 : Nat} {x2 : Int32} {x3 : Int32} {x4 : Int64} {x6 : Int32} (hR : kR h t s) (e0 : kD t 1 = x1) (e1 : ¬ (x6 < 0 ∨ (kA t 1).1 ≤ (Int32.toNatClampNeg x6))) (k1 : 122 < ((kA t 1).2 (Int32.toNatClampNeg x6)) → (∀ {h : zz_H}, kR h t s → zz_J zp_P zt_tf zt_fd X d zm_245 54 [(0, .ref 3), (3, .int x3), (4, .long x4), (6, .int x6)] [] h Q)) (k2 : ¬ 122 < ((kA t 1).2 (Int32.toNatClampNeg x6)) → (∀ {h : zz_H}, kR h t s → zz_J zp_P zt_tf zt_fd X d zm_245 30 [(0, .ref 3), (1, .ref x1), (2, .int x2), (3, .int x3), (4, .long x4), (6, .int x6)] [] h Q)) : zz_J zp_P zt_tf zt_fd X d zm_245 21 [(0, .ref 3), (1, .ref x1), (2, .int x2), (3, .int x3), (4, .long x4), (6, .int x6)] [] h Q := by
  refine zz_J.n 22 rfl rfl rfl ?_
  refine zz_J.n 24 rfl rfl rfl ?_
  refine zz_J.ab 25 rfl (hR.ab (w := ((kA t 1).2 (Int32.toNatClampNeg x6))) ka_1 e0 (by decide) e1 rfl) rfl ?_
  refine zz_J.c 27 (.int 122) rfl rfl rfl rfl ?_
  refine zz_J.b2 54 30 (A := 122 < ((kA t 1).2 (Int32.toNatClampNeg x6))) rfl rfl (by decide) rfl rfl (fun c => ?_) (fun c => ?_)
  · exact zz_J.weak (k1 c hR) rfl ⟨rfl, rfl, rfl, rfl, trivial⟩
  · exact zz_J.weak (k2 c hR) rfl ⟨rfl, rfl, rfl, rfl, rfl, rfl, trivial⟩
theorem cb_245_30 {X : Nat → Option zz_C} {h : zz_H} {t : cS} {s : mS} {d : Nat} {Q : zz_O → zz_H → Prop} {x1 : Nat} {x2 : Int32} {x3 : Int32} {x4 : Int64} {x6 : Int32} (hR : kR h t s) (e0 : kD t 1 = x1) (e1 : ¬ (x6 < 0 ∨ (kA t 1).1 ≤ (Int32.toNatClampNeg x6))) (k : ∀ {h : zz_H}, kR h t s → zz_J zp_P zt_tf zt_fd X d zm_245 6 [(0, .ref 3), (1, .ref x1), (2, .int x2), (3, .int x3), (4, .long (((x4 * 32) + (Int32.toInt64 ((kA t 1).2 (Int32.toNatClampNeg x6)))) - 96)), (6, .int (x6 + 1))] [] h Q) : zz_J zp_P zt_tf zt_fd X d zm_245 30 [(0, .ref 3), (1, .ref x1), (2, .int x2), (3, .int x3), (4, .long x4), (6, .int x6)] [] h Q := by
  refine zz_J.n 32 rfl rfl rfl ?_
  refine zz_J.c 35 (.long 32) rfl rfl rfl rfl ?_
  refine zz_J.n 36 rfl rfl rfl ?_
  refine zz_J.n 37 rfl rfl rfl ?_
  refine zz_J.n 39 rfl rfl rfl ?_
  refine zz_J.ab 40 rfl (hR.ab (w := ((kA t 1).2 (Int32.toNatClampNeg x6))) ka_1 e0 (by decide) e1 rfl) rfl ?_
  refine zz_J.n 41 rfl rfl rfl ?_
  refine zz_J.n 42 rfl rfl rfl ?_
  refine zz_J.c 45 (.long 96) rfl rfl rfl rfl ?_
  refine zz_J.n 46 rfl rfl rfl ?_
  refine zz_J.n 48 rfl rfl rfl ?_
  refine zz_J.n 51 rfl rfl rfl ?_
  refine zz_J.n 6 rfl rfl rfl ?_
  exact zz_J.weak (k hR) rfl ⟨rfl, rfl, rfl, rfl, rfl, rfl, trivial⟩
theorem cb_245_54 {X : Nat → Option zz_C} {h : zz_H} {t : cS} {s : mS} {d : Nat} {Q : zz_O → zz_H → Prop} {x3 : Int32} {x4 : Int64} {x6 : Int32} (hR : kR h t s) (k1 : (x6 - x3) ≤ 8 → (∀ {h : zz_H}, kR h t s → zz_J zp_P zt_tf zt_fd X d zm_245 72 [(0, .ref 3), (3, .int x3), (4, .long x4), (6, .int x6)] [] h Q)) (k2 : ¬ (x6 - x3) ≤ 8 → (∀ {h : zz_H}, kR h t s → zz_J zp_P zt_tf zt_fd X d zm_245 63 [(0, .ref 3), (3, .int x3)] [] h Q)) : zz_J zp_P zt_tf zt_fd X d zm_245 54 [(0, .ref 3), (3, .int x3), (4, .long x4), (6, .int x6)] [] h Q := by
  refine zz_J.n 56 rfl rfl rfl ?_
  refine zz_J.n 57 rfl rfl rfl ?_
  refine zz_J.n 58 rfl rfl rfl ?_
  refine zz_J.c 60 (.int 8) rfl rfl rfl rfl ?_
  refine zz_J.b2 72 63 (A := (x6 - x3) ≤ 8) rfl rfl (by decide) rfl rfl (fun c => ?_) (fun c => ?_)
  · exact zz_J.weak (k1 c hR) rfl ⟨rfl, rfl, rfl, rfl, trivial⟩
  · exact zz_J.weak (k2 c hR) rfl ⟨rfl, rfl, trivial⟩
theorem cb_245_63 {X : Nat → Option zz_C} {h : zz_H} {t : cS} {s : mS} {d : Nat} {Q : zz_O → zz_H → Prop} {x3 : Int32} (hR : kR h t s) (k : ∀ {h : zz_H}, kR h t s → zz_J zp_P zt_tf zt_fd X d zm_45 0 [(0, .ref 3), (1, .int 1), (2, .int x3), (3, .long 0)] [] h (zz_after 10 Q (fun v h' => zz_J zp_P zt_tf zt_fd X (d + 1) zm_245 70 [] (v.toList ++ []) h' Q))) : zz_J zp_P zt_tf zt_fd X (d + 1) zm_245 63 [(0, .ref 3), (3, .int x3)] [] h Q := by
  refine zz_J.n 64 rfl rfl rfl ?_
  refine zz_J.c 65 (.int 1) rfl rfl rfl rfl ?_
  refine zz_J.n 66 rfl rfl rfl ?_
  refine zz_J.c 67 (.long 0) rfl rfl rfl rfl ?_
  refine zz_J.cv 70 (as := []) rfl rfl (hR.clO ko_3 (by decide) (by decide)) (by decide) (Nat.le_of_ble_eq_true rfl) (Nat.le_of_ble_eq_true rfl) rfl (Nat.le_of_ble_eq_true rfl) rfl ?_
  refine zz_J.mono (k hR) ?_
  intro o h' hE
  cases o with
  | inl v => exact zz_J.weak hE rfl trivial
  | inr q => exact hE
theorem cb_245_70 {X : Nat → Option zz_C} {h : zz_H} {t : cS} {s : mS} {d : Nat} {Q : zz_O → zz_H → Prop}  (hR : kR h t s) (k : ∀ {h : zz_H}, kR h t s → Q (.inl (some (.int (-1)))) h) : zz_J zp_P zt_tf zt_fd X d zm_245 70 [] [] h Q := by
  refine zz_J.c 71 (.int (-1)) rfl rfl rfl rfl ?_
  refine zz_J.ret rfl rfl rfl ?_
  exact k hR
theorem cb_245_72 {X : Nat → Option zz_C} {h : zz_H} {t : cS} {s : mS} {d : Nat} {Q : zz_O → zz_H → Prop} {x3 : Int32} {x4 : Int64} {x6 : Int32} (hR : kR h t s) (k : ∀ {h : zz_H}, kR h t s → zz_J zp_P zt_tf zt_fd X d zm_247 0 [(0, .long x4)] [] h (zz_after 0 Q (fun v h' => zz_J zp_P zt_tf zt_fd X (d + 1) zm_245 77 [(0, .ref 3), (3, .int x3), (4, .long x4), (6, .int x6)] (v.toList ++ []) h' Q))) : zz_J zp_P zt_tf zt_fd X (d + 1) zm_245 72 [(0, .ref 3), (3, .int x3), (4, .long x4), (6, .int x6)] [] h Q := by
  refine zz_J.n 74 rfl rfl rfl ?_
  refine zz_J.cl (M' := zm_247) 77 rfl rfl (by decide) rfl rfl ⟨rfl, Nat.le_of_ble_eq_true rfl⟩ rfl ?_
  refine zz_J.mono (k hR) ?_
  intro o h' hE
  cases o with
  | inl v => exact zz_J.weak hE rfl ⟨rfl, rfl, rfl, rfl, trivial⟩
  | inr q => exact hE
theorem cb_245_77 {X : Nat → Option zz_C} {h : zz_H} {t : cS} {s : mS} {d : Nat} {Q : zz_O → zz_H → Prop} {x3 : Int32} {x4 : Int64} {x6 : Int32} {y0 : Int32} (hR : kR h t s) (k1 : ¬ y0 = (-1) → (∀ {h : zz_H}, kR h t s → zz_J zp_P zt_tf zt_fd X d zm_245 96 [(0, .ref 3), (3, .int x3), (6, .int x6), (7, .int y0)] [] h Q)) (k2 : ¬ ¬ y0 = (-1) → (∀ {h : zz_H}, kR h t s → zz_J zp_P zt_tf zt_fd X d zm_245 85 [(0, .ref 3), (3, .int x3), (4, .long x4), (6, .int x6)] [] h Q)) : zz_J zp_P zt_tf zt_fd X d zm_245 77 [(0, .ref 3), (3, .int x3), (4, .long x4), (6, .int x6)] [.int y0] h Q := by
  refine zz_J.n 79 rfl rfl rfl ?_
  refine zz_J.n 81 rfl rfl rfl ?_
  refine zz_J.c 82 (.int (-1)) rfl rfl rfl rfl ?_
  refine zz_J.b2 96 85 (A := ¬ y0 = (-1)) rfl (zz_cond_ne _ _) (by decide) rfl rfl (fun c => ?_) (fun c => ?_)
  · exact zz_J.weak (k1 c hR) rfl ⟨rfl, rfl, rfl, rfl, trivial⟩
  · exact zz_J.weak (k2 c hR) rfl ⟨rfl, rfl, rfl, rfl, trivial⟩
theorem cb_245_85 {X : Nat → Option zz_C} {h : zz_H} {t : cS} {s : mS} {d : Nat} {Q : zz_O → zz_H → Prop} {x3 : Int32} {x4 : Int64} {x6 : Int32} (hR : kR h t s) (k : ∀ {h : zz_H}, kR h t s → zz_J zp_P zt_tf zt_fd X d zm_45 0 [(0, .ref 3), (1, .int 3), (2, .int x3), (3, .long x4)] [] h (zz_after 10 Q (fun v h' => zz_J zp_P zt_tf zt_fd X (d + 1) zm_245 93 [(6, .int x6)] (v.toList ++ []) h' Q))) : zz_J zp_P zt_tf zt_fd X (d + 1) zm_245 85 [(0, .ref 3), (3, .int x3), (4, .long x4), (6, .int x6)] [] h Q := by
  refine zz_J.n 86 rfl rfl rfl ?_
  refine zz_J.c 87 (.int 3) rfl rfl rfl rfl ?_
  refine zz_J.n 88 rfl rfl rfl ?_
  refine zz_J.n 90 rfl rfl rfl ?_
  refine zz_J.cv 93 (as := []) rfl rfl (hR.clO ko_3 (by decide) (by decide)) (by decide) (Nat.le_of_ble_eq_true rfl) (Nat.le_of_ble_eq_true rfl) rfl (Nat.le_of_ble_eq_true rfl) rfl ?_
  refine zz_J.mono (k hR) ?_
  intro o h' hE
  cases o with
  | inl v => exact zz_J.weak hE rfl ⟨rfl, trivial⟩
  | inr q => exact hE
theorem cb_245_93 {X : Nat → Option zz_C} {h : zz_H} {t : cS} {s : mS} {d : Nat} {Q : zz_O → zz_H → Prop} {x6 : Int32} (hR : kR h t s) (k : ∀ {h : zz_H}, kR h t s → zz_J zp_P zt_tf zt_fd X d zm_245 105 [(6, .int x6)] [] h Q) : zz_J zp_P zt_tf zt_fd X d zm_245 93 [(6, .int x6)] [] h Q := by
  refine zz_J.n 105 rfl rfl rfl ?_
  exact zz_J.weak (k hR) rfl ⟨rfl, trivial⟩
theorem cb_245_96 {X : Nat → Option zz_C} {h : zz_H} {t : cS} {s : mS} {d : Nat} {Q : zz_O → zz_H → Prop} {x3 : Int32} {x6 : Int32} {x7 : Int32} (hR : kR h t s) (k : ∀ {h : zz_H}, kR h t s → zz_J zp_P zt_tf zt_fd X d zm_45 0 [(0, .ref 3), (1, .int 4), (2, .int x3), (3, .long (Int32.toInt64 x7))] [] h (zz_after 10 Q (fun v h' => zz_J zp_P zt_tf zt_fd X (d + 1) zm_245 105 [(6, .int x6)] (v.toList ++ []) h' Q))) : zz_J zp_P zt_tf zt_fd X (d + 1) zm_245 96 [(0, .ref 3), (3, .int x3), (6, .int x6), (7, .int x7)] [] h Q := by
  refine zz_J.n 97 rfl rfl rfl ?_
  refine zz_J.c 98 (.int 4) rfl rfl rfl rfl ?_
  refine zz_J.n 99 rfl rfl rfl ?_
  refine zz_J.n 101 rfl rfl rfl ?_
  refine zz_J.n 102 rfl rfl rfl ?_
  refine zz_J.cv 105 (as := []) rfl rfl (hR.clO ko_3 (by decide) (by decide)) (by decide) (Nat.le_of_ble_eq_true rfl) (Nat.le_of_ble_eq_true rfl) rfl (Nat.le_of_ble_eq_true rfl) rfl ?_
  refine zz_J.mono (k hR) ?_
  intro o h' hE
  cases o with
  | inl v => exact zz_J.weak hE rfl ⟨rfl, trivial⟩
  | inr q => exact hE
theorem cb_245_105 {X : Nat → Option zz_C} {h : zz_H} {t : cS} {s : mS} {d : Nat} {Q : zz_O → zz_H → Prop} {x6 : Int32} (hR : kR h t s) (k : ∀ {h : zz_H}, kR h t s → Q (.inl (some (.int x6))) h) : zz_J zp_P zt_tf zt_fd X d zm_245 105 [(6, .int x6)] [] h Q := by
  refine zz_J.n 107 rfl rfl rfl ?_
  refine zz_J.ret rfl rfl rfl ?_
  exact k hR
def cf_245_105 (N : Nat) (X : Nat → Option zz_C) (x6 : Int32) (t : cS) : kO := some (t, .inl (some (.int x6)))
theorem cr_245_105 {X : Nat → Option zz_C} {s : mS} {N : Nat} {d : Nat} (hd : 10 ≤ d) {Q : zz_O → zz_H → Prop} {x6 : Int32} {h : zz_H} {t t' : cS} {o : kY} (hR : kR h t s) (hf : cf_245_105 N X x6 t = some (t', o)) (k : (∀ h', kR h' t' s → kE o Q h')) : zz_J zp_P zt_tf zt_fd X d zm_245 105 [(6, .int x6)] [] h Q := by
  unfold cf_245_105 at hf
  cases hf
  exact cb_245_105 hR  (fun {h} hR => k h hR)
def cf_245_96 (N : Nat) (X : Nat → Option zz_C) (x3 : Int32) (x6 : Int32) (x7 : Int32) (t : cS) : kO := ko_call 10 (cf_45 N X 4 x3 (Int32.toInt64 x7) t) (fun g1 v1 => co_v v1 (cf_245_105 N X x6 g1))
theorem cr_245_96 {X : Nat → Option zz_C} {s : mS} {N : Nat} {d : Nat} (hd : 10 ≤ d) {Q : zz_O → zz_H → Prop} {x3 : Int32} {x6 : Int32} {x7 : Int32} {h : zz_H} {t t' : cS} {o : kY} (hR : kR h t s) (hf : cf_245_96 N X x3 x6 x7 t = some (t', o)) (k : (∀ h', kR h' t' s → kE o Q h')) : zz_J zp_P zt_tf zt_fd X d zm_245 96 [(0, .ref 3), (3, .int x3), (6, .int x6), (7, .int x7)] [] h Q := by
  unfold cf_245_96 at hf
  obtain ⟨d', rfl⟩ : ∃ d', d = d' + 1 := ⟨d - 1, by omega⟩
  refine cb_245_96 hR  (fun {h} hR => ?_)
  rcases ko_call_ok hf with ⟨g1, v1, er, hf⟩ | ⟨g1, er, hq⟩
  · obtain ⟨hv, hf2⟩ := co_v_ok hf
    clear hf
    have hf := hf2
    clear hf2
    subst hv
    refine cr_45 (by omega) hR er (fun h hR => ?_)
    exact cr_245_105 hd hR hf k
  · refine cr_45 (by omega) hR er (fun h hR => ?_)
    exact ko_thrown hq hR k
def cf_245_93 (N : Nat) (X : Nat → Option zz_C) (x6 : Int32) (t : cS) : kO := cf_245_105 N X x6 t
theorem cr_245_93 {X : Nat → Option zz_C} {s : mS} {N : Nat} {d : Nat} (hd : 10 ≤ d) {Q : zz_O → zz_H → Prop} {x6 : Int32} {h : zz_H} {t t' : cS} {o : kY} (hR : kR h t s) (hf : cf_245_93 N X x6 t = some (t', o)) (k : (∀ h', kR h' t' s → kE o Q h')) : zz_J zp_P zt_tf zt_fd X d zm_245 93 [(6, .int x6)] [] h Q := by
  unfold cf_245_93 at hf
  exact cb_245_93 hR  (fun hR => cr_245_105 hd hR hf k)
def cf_245_85 (N : Nat) (X : Nat → Option zz_C) (x3 : Int32) (x4 : Int64) (x6 : Int32) (t : cS) : kO := ko_call 10 (cf_45 N X 3 x3 x4 t) (fun g1 v1 => co_v v1 (cf_245_93 N X x6 g1))
theorem cr_245_85 {X : Nat → Option zz_C} {s : mS} {N : Nat} {d : Nat} (hd : 10 ≤ d) {Q : zz_O → zz_H → Prop} {x3 : Int32} {x4 : Int64} {x6 : Int32} {h : zz_H} {t t' : cS} {o : kY} (hR : kR h t s) (hf : cf_245_85 N X x3 x4 x6 t = some (t', o)) (k : (∀ h', kR h' t' s → kE o Q h')) : zz_J zp_P zt_tf zt_fd X d zm_245 85 [(0, .ref 3), (3, .int x3), (4, .long x4), (6, .int x6)] [] h Q := by
  unfold cf_245_85 at hf
  obtain ⟨d', rfl⟩ : ∃ d', d = d' + 1 := ⟨d - 1, by omega⟩
  refine cb_245_85 hR  (fun {h} hR => ?_)
  rcases ko_call_ok hf with ⟨g1, v1, er, hf⟩ | ⟨g1, er, hq⟩
  · obtain ⟨hv, hf2⟩ := co_v_ok hf
    clear hf
    have hf := hf2
    clear hf2
    subst hv
    refine cr_45 (by omega) hR er (fun h hR => ?_)
    exact cr_245_93 hd hR hf k
  · refine cr_45 (by omega) hR er (fun h hR => ?_)
    exact ko_thrown hq hR k
def cf_245_77 (N : Nat) (X : Nat → Option zz_C) (x3 : Int32) (x4 : Int64) (x6 : Int32) (y0 : Int32) (t : cS) : kO := if ¬ y0 = (-1) then cf_245_96 N X x3 x6 y0 t else cf_245_85 N X x3 x4 x6 t
theorem cr_245_77 {X : Nat → Option zz_C} {s : mS} {N : Nat} {d : Nat} (hd : 10 ≤ d) {Q : zz_O → zz_H → Prop} {x3 : Int32} {x4 : Int64} {x6 : Int32} {y0 : Int32} {h : zz_H} {t t' : cS} {o : kY} (hR : kR h t s) (hf : cf_245_77 N X x3 x4 x6 y0 t = some (t', o)) (k : (∀ h', kR h' t' s → kE o Q h')) : zz_J zp_P zt_tf zt_fd X d zm_245 77 [(0, .ref 3), (3, .int x3), (4, .long x4), (6, .int x6)] [.int y0] h Q := by
  unfold cf_245_77 at hf
  refine cb_245_77 hR  (fun c {h} hR => ?_) (fun c {h} hR => ?_)
  · rw [if_pos c] at hf
    exact cr_245_96 hd hR hf k
  · rw [if_neg c] at hf
    exact cr_245_85 hd hR hf k
def cf_245_72 (N : Nat) (X : Nat → Option zz_C) (x3 : Int32) (x4 : Int64) (x6 : Int32) (t : cS) : kO := ko_call 0 (cf_247 N X x4 t) (fun g1 v1 => co_i v1 (fun y => cf_245_77 N X x3 x4 x6 y g1))
theorem cr_245_72 {X : Nat → Option zz_C} {s : mS} {N : Nat} {d : Nat} (hd : 10 ≤ d) {Q : zz_O → zz_H → Prop} {x3 : Int32} {x4 : Int64} {x6 : Int32} {h : zz_H} {t t' : cS} {o : kY} (hR : kR h t s) (hf : cf_245_72 N X x3 x4 x6 t = some (t', o)) (k : (∀ h', kR h' t' s → kE o Q h')) : zz_J zp_P zt_tf zt_fd X d zm_245 72 [(0, .ref 3), (3, .int x3), (4, .long x4), (6, .int x6)] [] h Q := by
  unfold cf_245_72 at hf
  obtain ⟨d', rfl⟩ : ∃ d', d = d' + 1 := ⟨d - 1, by omega⟩
  refine cb_245_72 hR  (fun {h} hR => ?_)
  rcases ko_call_ok hf with ⟨g1, v1, er, hf⟩ | ⟨g1, er, hq⟩
  · obtain ⟨y, hv, hf2⟩ := co_i_ok hf
    clear hf
    have hf := hf2
    clear hf2
    subst hv
    refine cr_247 (by omega) hR er (fun h hR => ?_)
    exact cr_245_77 hd hR hf k
  · refine cr_247 (by omega) hR er (fun h hR => ?_)
    exact ko_thrown hq hR k
def cf_245_70 (N : Nat) (X : Nat → Option zz_C)  (t : cS) : kO := some (t, .inl (some (.int (-1))))
theorem cr_245_70 {X : Nat → Option zz_C} {s : mS} {N : Nat} {d : Nat} (hd : 10 ≤ d) {Q : zz_O → zz_H → Prop}  {h : zz_H} {t t' : cS} {o : kY} (hR : kR h t s) (hf : cf_245_70 N X  t = some (t', o)) (k : (∀ h', kR h' t' s → kE o Q h')) : zz_J zp_P zt_tf zt_fd X d zm_245 70 [] [] h Q := by
  unfold cf_245_70 at hf
  cases hf
  exact cb_245_70 hR  (fun {h} hR => k h hR)
def cf_245_63 (N : Nat) (X : Nat → Option zz_C) (x3 : Int32) (t : cS) : kO := ko_call 10 (cf_45 N X 1 x3 0 t) (fun g1 v1 => co_v v1 (cf_245_70 N X  g1))
theorem cr_245_63 {X : Nat → Option zz_C} {s : mS} {N : Nat} {d : Nat} (hd : 10 ≤ d) {Q : zz_O → zz_H → Prop} {x3 : Int32} {h : zz_H} {t t' : cS} {o : kY} (hR : kR h t s) (hf : cf_245_63 N X x3 t = some (t', o)) (k : (∀ h', kR h' t' s → kE o Q h')) : zz_J zp_P zt_tf zt_fd X d zm_245 63 [(0, .ref 3), (3, .int x3)] [] h Q := by
  unfold cf_245_63 at hf
  obtain ⟨d', rfl⟩ : ∃ d', d = d' + 1 := ⟨d - 1, by omega⟩
  refine cb_245_63 hR  (fun {h} hR => ?_)
  rcases ko_call_ok hf with ⟨g1, v1, er, hf⟩ | ⟨g1, er, hq⟩
  · obtain ⟨hv, hf2⟩ := co_v_ok hf
    clear hf
    have hf := hf2
    clear hf2
    subst hv
    refine cr_45 (by omega) hR er (fun h hR => ?_)
    exact cr_245_70 hd hR hf k
  · refine cr_45 (by omega) hR er (fun h hR => ?_)
    exact ko_thrown hq hR k
def cf_245_54 (N : Nat) (X : Nat → Option zz_C) (x3 : Int32) (x4 : Int64) (x6 : Int32) (t : cS) : kO := if (x6 - x3) ≤ 8 then cf_245_72 N X x3 x4 x6 t else cf_245_63 N X x3 t
theorem cr_245_54 {X : Nat → Option zz_C} {s : mS} {N : Nat} {d : Nat} (hd : 10 ≤ d) {Q : zz_O → zz_H → Prop} {x3 : Int32} {x4 : Int64} {x6 : Int32} {h : zz_H} {t t' : cS} {o : kY} (hR : kR h t s) (hf : cf_245_54 N X x3 x4 x6 t = some (t', o)) (k : (∀ h', kR h' t' s → kE o Q h')) : zz_J zp_P zt_tf zt_fd X d zm_245 54 [(0, .ref 3), (3, .int x3), (4, .long x4), (6, .int x6)] [] h Q := by
  unfold cf_245_54 at hf
  refine cb_245_54 hR  (fun c {h} hR => ?_) (fun c {h} hR => ?_)
  · rw [if_pos c] at hf
    exact cr_245_72 hd hR hf k
  · rw [if_neg c] at hf
    exact cr_245_63 hd hR hf k
def cf_245_30 (N : Nat) (X : Nat → Option zz_C) (rc : Nat → Nat → Int32 → Int32 → Int64 → Int32 → cS → kO) (x1 : Nat) (x2 : Int32) (x3 : Int32) (x4 : Int64) (x6 : Int32) (t : cS) : kO := if kD t 1 = x1 then (if ¬ (x6 < 0 ∨ (kA t 1).1 ≤ (Int32.toNatClampNeg x6)) then (rc 0 x1 x2 x3 (((x4 * 32) + (Int32.toInt64 ((kA t 1).2 (Int32.toNatClampNeg x6)))) - 96) (x6 + 1) t) else none) else none
theorem cr_245_30 {X : Nat → Option zz_C} {s : mS} {N : Nat} {d : Nat} (hd : 10 ≤ d) {rc : Nat → Nat → Int32 → Int32 → Int64 → Int32 → cS → kO} (hrc0 : ∀ {Q : zz_O → zz_H → Prop} {x1 : Nat} {x2 : Int32} {x3 : Int32} {x4 : Int64} {x6 : Int32} {h : zz_H} {t t' : cS} {o : kY}, kR h t s → rc 0 x1 x2 x3 x4 x6 t = some (t', o) → (∀ h', kR h' t' s → kE o Q h') → zz_J zp_P zt_tf zt_fd X d zm_245 6 [(0, .ref 3), (1, .ref x1), (2, .int x2), (3, .int x3), (4, .long x4), (6, .int x6)] [] h Q) {Q : zz_O → zz_H → Prop} {x1 : Nat} {x2 : Int32} {x3 : Int32} {x4 : Int64} {x6 : Int32} {h : zz_H} {t t' : cS} {o : kY} (hR : kR h t s) (hf : cf_245_30 N X rc x1 x2 x3 x4 x6 t = some (t', o)) (k : (∀ h', kR h' t' s → kE o Q h')) : zz_J zp_P zt_tf zt_fd X d zm_245 30 [(0, .ref 3), (1, .ref x1), (2, .int x2), (3, .int x3), (4, .long x4), (6, .int x6)] [] h Q := by
  unfold cf_245_30 at hf
  obtain ⟨e0, hf⟩ := ko_if hf
  obtain ⟨e1, hf⟩ := ko_if hf
  exact cb_245_30 hR e0 e1 (fun hR => hrc0 hR hf k)
def cf_245_21 (N : Nat) (X : Nat → Option zz_C) (rc : Nat → Nat → Int32 → Int32 → Int64 → Int32 → cS → kO) (x1 : Nat) (x2 : Int32) (x3 : Int32) (x4 : Int64) (x6 : Int32) (t : cS) : kO := if kD t 1 = x1 then (if ¬ (x6 < 0 ∨ (kA t 1).1 ≤ (Int32.toNatClampNeg x6)) then (if 122 < ((kA t 1).2 (Int32.toNatClampNeg x6)) then cf_245_54 N X x3 x4 x6 t else cf_245_30 N X rc x1 x2 x3 x4 x6 t) else none) else none
theorem cr_245_21 {X : Nat → Option zz_C} {s : mS} {N : Nat} {d : Nat} (hd : 10 ≤ d) {rc : Nat → Nat → Int32 → Int32 → Int64 → Int32 → cS → kO} (hrc0 : ∀ {Q : zz_O → zz_H → Prop} {x1 : Nat} {x2 : Int32} {x3 : Int32} {x4 : Int64} {x6 : Int32} {h : zz_H} {t t' : cS} {o : kY}, kR h t s → rc 0 x1 x2 x3 x4 x6 t = some (t', o) → (∀ h', kR h' t' s → kE o Q h') → zz_J zp_P zt_tf zt_fd X d zm_245 6 [(0, .ref 3), (1, .ref x1), (2, .int x2), (3, .int x3), (4, .long x4), (6, .int x6)] [] h Q) {Q : zz_O → zz_H → Prop} {x1 : Nat} {x2 : Int32} {x3 : Int32} {x4 : Int64} {x6 : Int32} {h : zz_H} {t t' : cS} {o : kY} (hR : kR h t s) (hf : cf_245_21 N X rc x1 x2 x3 x4 x6 t = some (t', o)) (k : (∀ h', kR h' t' s → kE o Q h')) : zz_J zp_P zt_tf zt_fd X d zm_245 21 [(0, .ref 3), (1, .ref x1), (2, .int x2), (3, .int x3), (4, .long x4), (6, .int x6)] [] h Q := by
  unfold cf_245_21 at hf
  obtain ⟨e0, hf⟩ := ko_if hf
  obtain ⟨e1, hf⟩ := ko_if hf
  refine cb_245_21 hR e0 e1 (fun c {h} hR => ?_) (fun c {h} hR => ?_)
  · rw [if_pos c] at hf
    exact cr_245_54 hd hR hf k
  · rw [if_neg c] at hf
    exact cr_245_30 hd hrc0 hR hf k
def cf_245_12 (N : Nat) (X : Nat → Option zz_C) (rc : Nat → Nat → Int32 → Int32 → Int64 → Int32 → cS → kO) (x1 : Nat) (x2 : Int32) (x3 : Int32) (x4 : Int64) (x6 : Int32) (t : cS) : kO := if kD t 1 = x1 then (if ¬ (x6 < 0 ∨ (kA t 1).1 ≤ (Int32.toNatClampNeg x6)) then (if ((kA t 1).2 (Int32.toNatClampNeg x6)) < 97 then cf_245_54 N X x3 x4 x6 t else cf_245_21 N X rc x1 x2 x3 x4 x6 t) else none) else none
theorem cr_245_12 {X : Nat → Option zz_C} {s : mS} {N : Nat} {d : Nat} (hd : 10 ≤ d) {rc : Nat → Nat → Int32 → Int32 → Int64 → Int32 → cS → kO} (hrc0 : ∀ {Q : zz_O → zz_H → Prop} {x1 : Nat} {x2 : Int32} {x3 : Int32} {x4 : Int64} {x6 : Int32} {h : zz_H} {t t' : cS} {o : kY}, kR h t s → rc 0 x1 x2 x3 x4 x6 t = some (t', o) → (∀ h', kR h' t' s → kE o Q h') → zz_J zp_P zt_tf zt_fd X d zm_245 6 [(0, .ref 3), (1, .ref x1), (2, .int x2), (3, .int x3), (4, .long x4), (6, .int x6)] [] h Q) {Q : zz_O → zz_H → Prop} {x1 : Nat} {x2 : Int32} {x3 : Int32} {x4 : Int64} {x6 : Int32} {h : zz_H} {t t' : cS} {o : kY} (hR : kR h t s) (hf : cf_245_12 N X rc x1 x2 x3 x4 x6 t = some (t', o)) (k : (∀ h', kR h' t' s → kE o Q h')) : zz_J zp_P zt_tf zt_fd X d zm_245 12 [(0, .ref 3), (1, .ref x1), (2, .int x2), (3, .int x3), (4, .long x4), (6, .int x6)] [] h Q := by
  unfold cf_245_12 at hf
  obtain ⟨e0, hf⟩ := ko_if hf
  obtain ⟨e1, hf⟩ := ko_if hf
  refine cb_245_12 hR e0 e1 (fun c {h} hR => ?_) (fun c {h} hR => ?_)
  · rw [if_pos c] at hf
    exact cr_245_54 hd hR hf k
  · rw [if_neg c] at hf
    exact cr_245_21 hd hrc0 hR hf k
def cf_245_6 (N : Nat) (X : Nat → Option zz_C) (rc : Nat → Nat → Int32 → Int32 → Int64 → Int32 → cS → kO) (x1 : Nat) (x2 : Int32) (x3 : Int32) (x4 : Int64) (x6 : Int32) (t : cS) : kO := if x2 ≤ x6 then cf_245_54 N X x3 x4 x6 t else cf_245_12 N X rc x1 x2 x3 x4 x6 t
theorem cr_245_6 {X : Nat → Option zz_C} {s : mS} {N : Nat} {d : Nat} (hd : 10 ≤ d) {rc : Nat → Nat → Int32 → Int32 → Int64 → Int32 → cS → kO} (hrc0 : ∀ {Q : zz_O → zz_H → Prop} {x1 : Nat} {x2 : Int32} {x3 : Int32} {x4 : Int64} {x6 : Int32} {h : zz_H} {t t' : cS} {o : kY}, kR h t s → rc 0 x1 x2 x3 x4 x6 t = some (t', o) → (∀ h', kR h' t' s → kE o Q h') → zz_J zp_P zt_tf zt_fd X d zm_245 6 [(0, .ref 3), (1, .ref x1), (2, .int x2), (3, .int x3), (4, .long x4), (6, .int x6)] [] h Q) {Q : zz_O → zz_H → Prop} {x1 : Nat} {x2 : Int32} {x3 : Int32} {x4 : Int64} {x6 : Int32} {h : zz_H} {t t' : cS} {o : kY} (hR : kR h t s) (hf : cf_245_6 N X rc x1 x2 x3 x4 x6 t = some (t', o)) (k : (∀ h', kR h' t' s → kE o Q h')) : zz_J zp_P zt_tf zt_fd X d zm_245 6 [(0, .ref 3), (1, .ref x1), (2, .int x2), (3, .int x3), (4, .long x4), (6, .int x6)] [] h Q := by
  unfold cf_245_6 at hf
  refine cb_245_6 hR  (fun c {h} hR => ?_) (fun c {h} hR => ?_)
  · rw [if_pos c] at hf
    exact cr_245_54 hd hR hf k
  · rw [if_neg c] at hf
    exact cr_245_12 hd hrc0 hR hf k
def cf_245_L9 (N : Nat) (X : Nat → Option zz_C) : Nat → Nat → Nat → Int32 → Int32 → Int64 → Int32 → cS → kO
  | 0, _, _, _, _, _, _, _ => none
  | n + 1, l, x1, x2, x3, x4, x6, t => if l = 0 then cf_245_6 N X (cf_245_L9 N X n) x1 x2 x3 x4 x6 t else none
theorem cr_245_L9 {X : Nat → Option zz_C} {s : mS} {N : Nat} {d : Nat} (hd : 10 ≤ d) : ∀ n : Nat, (∀ {Q : zz_O → zz_H → Prop} {x1 : Nat} {x2 : Int32} {x3 : Int32} {x4 : Int64} {x6 : Int32} {h : zz_H} {t t' : cS} {o : kY}, kR h t s → cf_245_L9 N X n 0 x1 x2 x3 x4 x6 t = some (t', o) → (∀ h', kR h' t' s → kE o Q h') → zz_J zp_P zt_tf zt_fd X d zm_245 6 [(0, .ref 3), (1, .ref x1), (2, .int x2), (3, .int x3), (4, .long x4), (6, .int x6)] [] h Q) := by
  intro n
  induction n with
  | zero => exact (fun _ hf _ => by cases hf)
  | succ n ih =>
    have h0 := @ih
    intro Q _ _ _ _ _ h t t' o hR hf k
    unfold cf_245_L9 at hf
    rw [if_pos rfl] at hf
    exact cr_245_6 hd h0 hR hf k
def cf_245_0 (N : Nat) (X : Nat → Option zz_C) (x1 : Nat) (x2 : Int32) (x3 : Int32) (t : cS) : kO := cf_245_L9 N X N 0 x1 x2 x3 0 x3 t
theorem cr_245_0 {X : Nat → Option zz_C} {s : mS} {N : Nat} {d : Nat} (hd : 10 ≤ d) {Q : zz_O → zz_H → Prop} {x1 : Nat} {x2 : Int32} {x3 : Int32} {h : zz_H} {t t' : cS} {o : kY} (hR : kR h t s) (hf : cf_245_0 N X x1 x2 x3 t = some (t', o)) (k : (∀ h', kR h' t' s → kE o Q h')) : zz_J zp_P zt_tf zt_fd X d zm_245 0 [(0, .ref 3), (1, .ref x1), (2, .int x2), (3, .int x3)] [] h Q := by
  unfold cf_245_0 at hf
  exact cb_245_0 hR  (fun hR => cr_245_L9 hd N hR hf k)
/-- scanWord -/
def cf_245 (N : Nat) (X : Nat → Option zz_C) (x1 : Nat) (x2 : Int32) (x3 : Int32) (t : cS) : kO := cf_245_0 N X x1 x2 x3 t
theorem cr_245 {X : Nat → Option zz_C} {s : mS} {N : Nat} {d : Nat} (hd : 10 ≤ d) {Q : zz_O → zz_H → Prop} {x1 : Nat} {x2 : Int32} {x3 : Int32} {h : zz_H} {t t' : cS} {o : kY} (hR : kR h t s) (hf : cf_245 N X x1 x2 x3 t = some (t', o)) (k : ∀ h', kR h' t' s → kE o Q h') : zz_J zp_P zt_tf zt_fd X d zm_245 0 [(0, .ref 3), (1, .ref x1), (2, .int x2), (3, .int x3)] [] h Q := by
  unfold cf_245 at hf
  exact zz_J.weak (cr_245_0 hd hR hf k) rfl ⟨rfl, rfl, rfl, rfl, trivial⟩
/-! yX10_scanNumber ([BII)I -/
theorem cb_246_0 {X : Nat → Option zz_C} {h : zz_H} {t : cS} {s : mS} {d : Nat} {Q : zz_O → zz_H → Prop} {x1 : Nat} {x2 : Int32} {x3 : Int32} (hR : kR h t s) (k : ∀ {h : zz_H}, kR h t s → zz_J zp_P zt_tf zt_fd X d zm_246 6 [(0, .ref 3), (1, .ref x1), (2, .int x2), (3, .int x3), (4, .long 0), (6, .int x3)] [] h Q) : zz_J zp_P zt_tf zt_fd X d zm_246 0 [(0, .ref 3), (1, .ref x1), (2, .int x2), (3, .int x3)] [] h Q := by
  refine zz_J.c 1 (.long 0) rfl rfl rfl rfl ?_
  refine zz_J.n 3 rfl rfl rfl ?_
  refine zz_J.n 4 rfl rfl rfl ?_
  refine zz_J.n 6 rfl rfl rfl ?_
  exact zz_J.weak (k hR) rfl ⟨rfl, rfl, rfl, rfl, rfl, rfl, trivial⟩
theorem cb_246_6 {X : Nat → Option zz_C} {h : zz_H} {t : cS} {s : mS} {d : Nat} {Q : zz_O → zz_H → Prop} {x1 : Nat} {x2 : Int32} {x3 : Int32} {x4 : Int64} {x6 : Int32} (hR : kR h t s) (k1 : x2 ≤ x6 → (∀ {h : zz_H}, kR h t s → zz_J zp_P zt_tf zt_fd X d zm_246 54 [(0, .ref 3), (3, .int x3), (4, .long x4), (6, .int x6)] [] h Q)) (k2 : ¬ x2 ≤ x6 → (∀ {h : zz_H}, kR h t s → zz_J zp_P zt_tf zt_fd X d zm_246 12 [(0, .ref 3), (1, .ref x1), (2, .int x2), (3, .int x3), (4, .long x4), (6, .int x6)] [] h Q)) : zz_J zp_P zt_tf zt_fd X d zm_246 6 [(0, .ref 3), (1, .ref x1), (2, .int x2), (3, .int x3), (4, .long x4), (6, .int x6)] [] h Q := by
  refine zz_J.n 8 rfl rfl rfl ?_
  refine zz_J.n 9 rfl rfl rfl ?_
  refine zz_J.b2 54 12 (A := x2 ≤ x6) rfl rfl (by decide) rfl rfl (fun c => ?_) (fun c => ?_)
  · exact zz_J.weak (k1 c hR) rfl ⟨rfl, rfl, rfl, rfl, trivial⟩
  · exact zz_J.weak (k2 c hR) rfl ⟨rfl, rfl, rfl, rfl, rfl, rfl, trivial⟩
theorem cb_246_12 {X : Nat → Option zz_C} {h : zz_H} {t : cS} {s : mS} {d : Nat} {Q : zz_O → zz_H → Prop} {x1 : Nat} {x2 : Int32} {x3 : Int32} {x4 : Int64} {x6 : Int32} (hR : kR h t s) (e0 : kD t 1 = x1) (e1 : ¬ (x6 < 0 ∨ (kA t 1).1 ≤ (Int32.toNatClampNeg x6))) (k1 : ((kA t 1).2 (Int32.toNatClampNeg x6)) < 48 → (∀ {h : zz_H}, kR h t s → zz_J zp_P zt_tf zt_fd X d zm_246 54 [(0, .ref 3), (3, .int x3), (4, .long x4), (6, .int x6)] [] h Q)) (k2 : ¬ ((kA t 1).2 (Int32.toNatClampNeg x6)) < 48 → (∀ {h : zz_H}, kR h t s → zz_J zp_P zt_tf zt_fd X d zm_246 21 [(0, .ref 3), (1, .ref x1), (2, .int x2), (3, .int x3), (4, .long x4), (6, .int x6)] [] h Q)) : zz_J zp_P zt_tf zt_fd X d zm_246 12 [(0, .ref 3), (1, .ref x1), (2, .int x2), (3, .int x3), (4, .long x4), (6, .int x6)] [] h Q := by
  refine zz_J.n 13 rfl rfl rfl ?_
  refine zz_J.n 15 rfl rfl rfl ?_
  refine zz_J.ab 16 rfl (hR.ab (w := ((kA t 1).2 (Int32.toNatClampNeg x6))) ka_1 e0 (by decide) e1 rfl) rfl ?_
  refine zz_J.c 18 (.int 48) rfl rfl rfl rfl ?_
  refine zz_J.b2 54 21 (A := ((kA t 1).2 (Int32.toNatClampNeg x6)) < 48) rfl rfl (by decide) rfl rfl (fun c => ?_) (fun c => ?_)
  · exact zz_J.weak (k1 c hR) rfl ⟨rfl, rfl, rfl, rfl, trivial⟩
  · exact zz_J.weak (k2 c hR) rfl ⟨rfl, rfl, rfl, rfl, rfl, rfl, trivial⟩
theorem cb_246_21 {X : Nat → Option zz_C} {h : zz_H} {t : cS} {s : mS} {d : Nat} {Q : zz_O → zz_H → Prop} {x1 : Nat} {x2 : Int32} {x3 : Int32} {x4 : Int64} {x6 : Int32} (hR : kR h t s) (e0 : kD t 1 = x1) (e1 : ¬ (x6 < 0 ∨ (kA t 1).1 ≤ (Int32.toNatClampNeg x6))) (k1 : 57 < ((kA t 1).2 (Int32.toNatClampNeg x6)) → (∀ {h : zz_H}, kR h t s → zz_J zp_P zt_tf zt_fd X d zm_246 54 [(0, .ref 3), (3, .int x3), (4, .long x4), (6, .int x6)] [] h Q)) (k2 : ¬ 57 < ((kA t 1).2 (Int32.toNatClampNeg x6)) → (∀ {h : zz_H}, kR h t s → zz_J zp_P zt_tf zt_fd X d zm_246 30 [(0, .ref 3), (1, .ref x1), (2, .int x2), (3, .int x3), (4, .long x4), (6, .int x6)] [] h Q)) : zz_J zp_P zt_tf zt_fd X d zm_246 21 [(0, .ref 3), (1, .ref x1), (2, .int x2), (3, .int x3), (4, .long x4), (6, .int x6)] [] h Q := by
  refine zz_J.n 22 rfl rfl rfl ?_
  refine zz_J.n 24 rfl rfl rfl ?_
  refine zz_J.ab 25 rfl (hR.ab (w := ((kA t 1).2 (Int32.toNatClampNeg x6))) ka_1 e0 (by decide) e1 rfl) rfl ?_
  refine zz_J.c 27 (.int 57) rfl rfl rfl rfl ?_
  refine zz_J.b2 54 30 (A := 57 < ((kA t 1).2 (Int32.toNatClampNeg x6))) rfl rfl (by decide) rfl rfl (fun c => ?_) (fun c => ?_)
  · exact zz_J.weak (k1 c hR) rfl ⟨rfl, rfl, rfl, rfl, trivial⟩
  · exact zz_J.weak (k2 c hR) rfl ⟨rfl, rfl, rfl, rfl, rfl, rfl, trivial⟩
theorem cb_246_30 {X : Nat → Option zz_C} {h : zz_H} {t : cS} {s : mS} {d : Nat} {Q : zz_O → zz_H → Prop} {x1 : Nat} {x2 : Int32} {x3 : Int32} {x4 : Int64} {x6 : Int32} (hR : kR h t s) (e0 : kD t 1 = x1) (e1 : ¬ (x6 < 0 ∨ (kA t 1).1 ≤ (Int32.toNatClampNeg x6))) (k : ∀ {h : zz_H}, kR h t s → zz_J zp_P zt_tf zt_fd X d zm_246 6 [(0, .ref 3), (1, .ref x1), (2, .int x2), (3, .int x3), (4, .long (((x4 * 10) + (Int32.toInt64 ((kA t 1).2 (Int32.toNatClampNeg x6)))) - 48)), (6, .int (x6 + 1))] [] h Q) : zz_J zp_P zt_tf zt_fd X d zm_246 30 [(0, .ref 3), (1, .ref x1), (2, .int x2), (3, .int x3), (4, .long x4), (6, .int x6)] [] h Q := by
  refine zz_J.n 32 rfl rfl rfl ?_
  refine zz_J.c 35 (.long 10) rfl rfl rfl rfl ?_
  refine zz_J.n 36 rfl rfl rfl ?_
  refine zz_J.n 37 rfl rfl rfl ?_
  refine zz_J.n 39 rfl rfl rfl ?_
  refine zz_J.ab 40 rfl (hR.ab (w := ((kA t 1).2 (Int32.toNatClampNeg x6))) ka_1 e0 (by decide) e1 rfl) rfl ?_
  refine zz_J.n 41 rfl rfl rfl ?_
  refine zz_J.n 42 rfl rfl rfl ?_
  refine zz_J.c 45 (.long 48) rfl rfl rfl rfl ?_
  refine zz_J.n 46 rfl rfl rfl ?_
  refine zz_J.n 48 rfl rfl rfl ?_
  refine zz_J.n 51 rfl rfl rfl ?_
  refine zz_J.n 6 rfl rfl rfl ?_
  exact zz_J.weak (k hR) rfl ⟨rfl, rfl, rfl, rfl, rfl, rfl, trivial⟩
theorem cb_246_54 {X : Nat → Option zz_C} {h : zz_H} {t : cS} {s : mS} {d : Nat} {Q : zz_O → zz_H → Prop} {x3 : Int32} {x4 : Int64} {x6 : Int32} (hR : kR h t s) (k1 : 10 < (x6 - x3) → (∀ {h : zz_H}, kR h t s → zz_J zp_P zt_tf zt_fd X d zm_246 72 [(0, .ref 3), (3, .int x3)] [] h Q)) (k2 : ¬ 10 < (x6 - x3) → (∀ {h : zz_H}, kR h t s → zz_J zp_P zt_tf zt_fd X d zm_246 63 [(0, .ref 3), (3, .int x3), (4, .long x4), (6, .int x6)] [] h Q)) : zz_J zp_P zt_tf zt_fd X d zm_246 54 [(0, .ref 3), (3, .int x3), (4, .long x4), (6, .int x6)] [] h Q := by
  refine zz_J.n 56 rfl rfl rfl ?_
  refine zz_J.n 57 rfl rfl rfl ?_
  refine zz_J.n 58 rfl rfl rfl ?_
  refine zz_J.c 60 (.int 10) rfl rfl rfl rfl ?_
  refine zz_J.b2 72 63 (A := 10 < (x6 - x3)) rfl rfl (by decide) rfl rfl (fun c => ?_) (fun c => ?_)
  · exact zz_J.weak (k1 c hR) rfl ⟨rfl, rfl, trivial⟩
  · exact zz_J.weak (k2 c hR) rfl ⟨rfl, rfl, rfl, rfl, trivial⟩
theorem cb_246_63 {X : Nat → Option zz_C} {h : zz_H} {t : cS} {s : mS} {d : Nat} {Q : zz_O → zz_H → Prop} {x3 : Int32} {x4 : Int64} {x6 : Int32} (hR : kR h t s) (k1 : (lg_cmp x4 2147483647) ≤ 0 → (∀ {h : zz_H}, kR h t s → zz_J zp_P zt_tf zt_fd X d zm_246 81 [(0, .ref 3), (3, .int x3), (4, .long x4), (6, .int x6)] [] h Q)) (k2 : ¬ (lg_cmp x4 2147483647) ≤ 0 → (∀ {h : zz_H}, kR h t s → zz_J zp_P zt_tf zt_fd X d zm_246 72 [(0, .ref 3), (3, .int x3)] [] h Q)) : zz_J zp_P zt_tf zt_fd X d zm_246 63 [(0, .ref 3), (3, .int x3), (4, .long x4), (6, .int x6)] [] h Q := by
  refine zz_J.n 65 rfl rfl rfl ?_
  refine zz_J.c 68 (.long 2147483647) rfl rfl rfl rfl ?_
  refine zz_J.n 69 rfl rfl rfl ?_
  refine zz_J.b1 81 72 (A := (lg_cmp x4 2147483647) ≤ 0) rfl rfl (by decide) rfl rfl (fun c => ?_) (fun c => ?_)
  · exact zz_J.weak (k1 c hR) rfl ⟨rfl, rfl, rfl, rfl, trivial⟩
  · exact zz_J.weak (k2 c hR) rfl ⟨rfl, rfl, trivial⟩
theorem cb_246_72 {X : Nat → Option zz_C} {h : zz_H} {t : cS} {s : mS} {d : Nat} {Q : zz_O → zz_H → Prop} {x3 : Int32} (hR : kR h t s) (k : ∀ {h : zz_H}, kR h t s → zz_J zp_P zt_tf zt_fd X d zm_45 0 [(0, .ref 3), (1, .int 1), (2, .int x3), (3, .long 0)] [] h (zz_after 10 Q (fun v h' => zz_J zp_P zt_tf zt_fd X (d + 1) zm_246 79 [] (v.toList ++ []) h' Q))) : zz_J zp_P zt_tf zt_fd X (d + 1) zm_246 72 [(0, .ref 3), (3, .int x3)] [] h Q := by
  refine zz_J.n 73 rfl rfl rfl ?_
  refine zz_J.c 74 (.int 1) rfl rfl rfl rfl ?_
  refine zz_J.n 75 rfl rfl rfl ?_
  refine zz_J.c 76 (.long 0) rfl rfl rfl rfl ?_
  refine zz_J.cv 79 (as := []) rfl rfl (hR.clO ko_3 (by decide) (by decide)) (by decide) (Nat.le_of_ble_eq_true rfl) (Nat.le_of_ble_eq_true rfl) rfl (Nat.le_of_ble_eq_true rfl) rfl ?_
  refine zz_J.mono (k hR) ?_
  intro o h' hE
  cases o with
  | inl v => exact zz_J.weak hE rfl trivial
  | inr q => exact hE
theorem cb_246_79 {X : Nat → Option zz_C} {h : zz_H} {t : cS} {s : mS} {d : Nat} {Q : zz_O → zz_H → Prop}  (hR : kR h t s) (k : ∀ {h : zz_H}, kR h t s → Q (.inl (some (.int (-1)))) h) : zz_J zp_P zt_tf zt_fd X d zm_246 79 [] [] h Q := by
  refine zz_J.c 80 (.int (-1)) rfl rfl rfl rfl ?_
  refine zz_J.ret rfl rfl rfl ?_
  exact k hR
theorem cb_246_81 {X : Nat → Option zz_C} {h : zz_H} {t : cS} {s : mS} {d : Nat} {Q : zz_O → zz_H → Prop} {x3 : Int32} {x4 : Int64} {x6 : Int32} (hR : kR h t s) (k : ∀ {h : zz_H}, kR h t s → zz_J zp_P zt_tf zt_fd X d zm_45 0 [(0, .ref 3), (1, .int 2), (2, .int x3), (3, .long x4)] [] h (zz_after 10 Q (fun v h' => zz_J zp_P zt_tf zt_fd X (d + 1) zm_246 89 [(6, .int x6)] (v.toList ++ []) h' Q))) : zz_J zp_P zt_tf zt_fd X (d + 1) zm_246 81 [(0, .ref 3), (3, .int x3), (4, .long x4), (6, .int x6)] [] h Q := by
  refine zz_J.n 82 rfl rfl rfl ?_
  refine zz_J.c 83 (.int 2) rfl rfl rfl rfl ?_
  refine zz_J.n 84 rfl rfl rfl ?_
  refine zz_J.n 86 rfl rfl rfl ?_
  refine zz_J.cv 89 (as := []) rfl rfl (hR.clO ko_3 (by decide) (by decide)) (by decide) (Nat.le_of_ble_eq_true rfl) (Nat.le_of_ble_eq_true rfl) rfl (Nat.le_of_ble_eq_true rfl) rfl ?_
  refine zz_J.mono (k hR) ?_
  intro o h' hE
  cases o with
  | inl v => exact zz_J.weak hE rfl ⟨rfl, trivial⟩
  | inr q => exact hE
theorem cb_246_89 {X : Nat → Option zz_C} {h : zz_H} {t : cS} {s : mS} {d : Nat} {Q : zz_O → zz_H → Prop} {x6 : Int32} (hR : kR h t s) (k : ∀ {h : zz_H}, kR h t s → Q (.inl (some (.int x6))) h) : zz_J zp_P zt_tf zt_fd X d zm_246 89 [(6, .int x6)] [] h Q := by
  refine zz_J.n 91 rfl rfl rfl ?_
  refine zz_J.ret rfl rfl rfl ?_
  exact k hR
def cf_246_79 (N : Nat) (X : Nat → Option zz_C)  (t : cS) : kO := some (t, .inl (some (.int (-1))))
theorem cr_246_79 {X : Nat → Option zz_C} {s : mS} {N : Nat} {d : Nat} (hd : 10 ≤ d) {Q : zz_O → zz_H → Prop}  {h : zz_H} {t t' : cS} {o : kY} (hR : kR h t s) (hf : cf_246_79 N X  t = some (t', o)) (k : (∀ h', kR h' t' s → kE o Q h')) : zz_J zp_P zt_tf zt_fd X d zm_246 79 [] [] h Q := by
  unfold cf_246_79 at hf
  cases hf
  exact cb_246_79 hR  (fun {h} hR => k h hR)
def cf_246_72 (N : Nat) (X : Nat → Option zz_C) (x3 : Int32) (t : cS) : kO := ko_call 10 (cf_45 N X 1 x3 0 t) (fun g1 v1 => co_v v1 (cf_246_79 N X  g1))
theorem cr_246_72 {X : Nat → Option zz_C} {s : mS} {N : Nat} {d : Nat} (hd : 10 ≤ d) {Q : zz_O → zz_H → Prop} {x3 : Int32} {h : zz_H} {t t' : cS} {o : kY} (hR : kR h t s) (hf : cf_246_72 N X x3 t = some (t', o)) (k : (∀ h', kR h' t' s → kE o Q h')) : zz_J zp_P zt_tf zt_fd X d zm_246 72 [(0, .ref 3), (3, .int x3)] [] h Q := by
  unfold cf_246_72 at hf
  obtain ⟨d', rfl⟩ : ∃ d', d = d' + 1 := ⟨d - 1, by omega⟩
  refine cb_246_72 hR  (fun {h} hR => ?_)
  rcases ko_call_ok hf with ⟨g1, v1, er, hf⟩ | ⟨g1, er, hq⟩
  · obtain ⟨hv, hf2⟩ := co_v_ok hf
    clear hf
    have hf := hf2
    clear hf2
    subst hv
    refine cr_45 (by omega) hR er (fun h hR => ?_)
    exact cr_246_79 hd hR hf k
  · refine cr_45 (by omega) hR er (fun h hR => ?_)
    exact ko_thrown hq hR k
def cf_246_89 (N : Nat) (X : Nat → Option zz_C) (x6 : Int32) (t : cS) : kO := some (t, .inl (some (.int x6)))
theorem cr_246_89 {X : Nat → Option zz_C} {s : mS} {N : Nat} {d : Nat} (hd : 10 ≤ d) {Q : zz_O → zz_H → Prop} {x6 : Int32} {h : zz_H} {t t' : cS} {o : kY} (hR : kR h t s) (hf : cf_246_89 N X x6 t = some (t', o)) (k : (∀ h', kR h' t' s → kE o Q h')) : zz_J zp_P zt_tf zt_fd X d zm_246 89 [(6, .int x6)] [] h Q := by
  unfold cf_246_89 at hf
  cases hf
  exact cb_246_89 hR  (fun {h} hR => k h hR)
def cf_246_81 (N : Nat) (X : Nat → Option zz_C) (x3 : Int32) (x4 : Int64) (x6 : Int32) (t : cS) : kO := ko_call 10 (cf_45 N X 2 x3 x4 t) (fun g1 v1 => co_v v1 (cf_246_89 N X x6 g1))
theorem cr_246_81 {X : Nat → Option zz_C} {s : mS} {N : Nat} {d : Nat} (hd : 10 ≤ d) {Q : zz_O → zz_H → Prop} {x3 : Int32} {x4 : Int64} {x6 : Int32} {h : zz_H} {t t' : cS} {o : kY} (hR : kR h t s) (hf : cf_246_81 N X x3 x4 x6 t = some (t', o)) (k : (∀ h', kR h' t' s → kE o Q h')) : zz_J zp_P zt_tf zt_fd X d zm_246 81 [(0, .ref 3), (3, .int x3), (4, .long x4), (6, .int x6)] [] h Q := by
  unfold cf_246_81 at hf
  obtain ⟨d', rfl⟩ : ∃ d', d = d' + 1 := ⟨d - 1, by omega⟩
  refine cb_246_81 hR  (fun {h} hR => ?_)
  rcases ko_call_ok hf with ⟨g1, v1, er, hf⟩ | ⟨g1, er, hq⟩
  · obtain ⟨hv, hf2⟩ := co_v_ok hf
    clear hf
    have hf := hf2
    clear hf2
    subst hv
    refine cr_45 (by omega) hR er (fun h hR => ?_)
    exact cr_246_89 hd hR hf k
  · refine cr_45 (by omega) hR er (fun h hR => ?_)
    exact ko_thrown hq hR k
def cf_246_63 (N : Nat) (X : Nat → Option zz_C) (x3 : Int32) (x4 : Int64) (x6 : Int32) (t : cS) : kO := if (lg_cmp x4 2147483647) ≤ 0 then cf_246_81 N X x3 x4 x6 t else cf_246_72 N X x3 t
theorem cr_246_63 {X : Nat → Option zz_C} {s : mS} {N : Nat} {d : Nat} (hd : 10 ≤ d) {Q : zz_O → zz_H → Prop} {x3 : Int32} {x4 : Int64} {x6 : Int32} {h : zz_H} {t t' : cS} {o : kY} (hR : kR h t s) (hf : cf_246_63 N X x3 x4 x6 t = some (t', o)) (k : (∀ h', kR h' t' s → kE o Q h')) : zz_J zp_P zt_tf zt_fd X d zm_246 63 [(0, .ref 3), (3, .int x3), (4, .long x4), (6, .int x6)] [] h Q := by
  unfold cf_246_63 at hf
  refine cb_246_63 hR  (fun c {h} hR => ?_) (fun c {h} hR => ?_)
  · rw [if_pos c] at hf
    exact cr_246_81 hd hR hf k
  · rw [if_neg c] at hf
    exact cr_246_72 hd hR hf k
def cf_246_54 (N : Nat) (X : Nat → Option zz_C) (x3 : Int32) (x4 : Int64) (x6 : Int32) (t : cS) : kO := if 10 < (x6 - x3) then cf_246_72 N X x3 t else cf_246_63 N X x3 x4 x6 t
theorem cr_246_54 {X : Nat → Option zz_C} {s : mS} {N : Nat} {d : Nat} (hd : 10 ≤ d) {Q : zz_O → zz_H → Prop} {x3 : Int32} {x4 : Int64} {x6 : Int32} {h : zz_H} {t t' : cS} {o : kY} (hR : kR h t s) (hf : cf_246_54 N X x3 x4 x6 t = some (t', o)) (k : (∀ h', kR h' t' s → kE o Q h')) : zz_J zp_P zt_tf zt_fd X d zm_246 54 [(0, .ref 3), (3, .int x3), (4, .long x4), (6, .int x6)] [] h Q := by
  unfold cf_246_54 at hf
  refine cb_246_54 hR  (fun c {h} hR => ?_) (fun c {h} hR => ?_)
  · rw [if_pos c] at hf
    exact cr_246_72 hd hR hf k
  · rw [if_neg c] at hf
    exact cr_246_63 hd hR hf k
def cf_246_30 (N : Nat) (X : Nat → Option zz_C) (rc : Nat → Nat → Int32 → Int32 → Int64 → Int32 → cS → kO) (x1 : Nat) (x2 : Int32) (x3 : Int32) (x4 : Int64) (x6 : Int32) (t : cS) : kO := if kD t 1 = x1 then (if ¬ (x6 < 0 ∨ (kA t 1).1 ≤ (Int32.toNatClampNeg x6)) then (rc 0 x1 x2 x3 (((x4 * 10) + (Int32.toInt64 ((kA t 1).2 (Int32.toNatClampNeg x6)))) - 48) (x6 + 1) t) else none) else none
theorem cr_246_30 {X : Nat → Option zz_C} {s : mS} {N : Nat} {d : Nat} (hd : 10 ≤ d) {rc : Nat → Nat → Int32 → Int32 → Int64 → Int32 → cS → kO} (hrc0 : ∀ {Q : zz_O → zz_H → Prop} {x1 : Nat} {x2 : Int32} {x3 : Int32} {x4 : Int64} {x6 : Int32} {h : zz_H} {t t' : cS} {o : kY}, kR h t s → rc 0 x1 x2 x3 x4 x6 t = some (t', o) → (∀ h', kR h' t' s → kE o Q h') → zz_J zp_P zt_tf zt_fd X d zm_246 6 [(0, .ref 3), (1, .ref x1), (2, .int x2), (3, .int x3), (4, .long x4), (6, .int x6)] [] h Q) {Q : zz_O → zz_H → Prop} {x1 : Nat} {x2 : Int32} {x3 : Int32} {x4 : Int64} {x6 : Int32} {h : zz_H} {t t' : cS} {o : kY} (hR : kR h t s) (hf : cf_246_30 N X rc x1 x2 x3 x4 x6 t = some (t', o)) (k : (∀ h', kR h' t' s → kE o Q h')) : zz_J zp_P zt_tf zt_fd X d zm_246 30 [(0, .ref 3), (1, .ref x1), (2, .int x2), (3, .int x3), (4, .long x4), (6, .int x6)] [] h Q := by
  unfold cf_246_30 at hf
  obtain ⟨e0, hf⟩ := ko_if hf
  obtain ⟨e1, hf⟩ := ko_if hf
  exact cb_246_30 hR e0 e1 (fun hR => hrc0 hR hf k)
def cf_246_21 (N : Nat) (X : Nat → Option zz_C) (rc : Nat → Nat → Int32 → Int32 → Int64 → Int32 → cS → kO) (x1 : Nat) (x2 : Int32) (x3 : Int32) (x4 : Int64) (x6 : Int32) (t : cS) : kO := if kD t 1 = x1 then (if ¬ (x6 < 0 ∨ (kA t 1).1 ≤ (Int32.toNatClampNeg x6)) then (if 57 < ((kA t 1).2 (Int32.toNatClampNeg x6)) then cf_246_54 N X x3 x4 x6 t else cf_246_30 N X rc x1 x2 x3 x4 x6 t) else none) else none
theorem cr_246_21 {X : Nat → Option zz_C} {s : mS} {N : Nat} {d : Nat} (hd : 10 ≤ d) {rc : Nat → Nat → Int32 → Int32 → Int64 → Int32 → cS → kO} (hrc0 : ∀ {Q : zz_O → zz_H → Prop} {x1 : Nat} {x2 : Int32} {x3 : Int32} {x4 : Int64} {x6 : Int32} {h : zz_H} {t t' : cS} {o : kY}, kR h t s → rc 0 x1 x2 x3 x4 x6 t = some (t', o) → (∀ h', kR h' t' s → kE o Q h') → zz_J zp_P zt_tf zt_fd X d zm_246 6 [(0, .ref 3), (1, .ref x1), (2, .int x2), (3, .int x3), (4, .long x4), (6, .int x6)] [] h Q) {Q : zz_O → zz_H → Prop} {x1 : Nat} {x2 : Int32} {x3 : Int32} {x4 : Int64} {x6 : Int32} {h : zz_H} {t t' : cS} {o : kY} (hR : kR h t s) (hf : cf_246_21 N X rc x1 x2 x3 x4 x6 t = some (t', o)) (k : (∀ h', kR h' t' s → kE o Q h')) : zz_J zp_P zt_tf zt_fd X d zm_246 21 [(0, .ref 3), (1, .ref x1), (2, .int x2), (3, .int x3), (4, .long x4), (6, .int x6)] [] h Q := by
  unfold cf_246_21 at hf
  obtain ⟨e0, hf⟩ := ko_if hf
  obtain ⟨e1, hf⟩ := ko_if hf
  refine cb_246_21 hR e0 e1 (fun c {h} hR => ?_) (fun c {h} hR => ?_)
  · rw [if_pos c] at hf
    exact cr_246_54 hd hR hf k
  · rw [if_neg c] at hf
    exact cr_246_30 hd hrc0 hR hf k
def cf_246_12 (N : Nat) (X : Nat → Option zz_C) (rc : Nat → Nat → Int32 → Int32 → Int64 → Int32 → cS → kO) (x1 : Nat) (x2 : Int32) (x3 : Int32) (x4 : Int64) (x6 : Int32) (t : cS) : kO := if kD t 1 = x1 then (if ¬ (x6 < 0 ∨ (kA t 1).1 ≤ (Int32.toNatClampNeg x6)) then (if ((kA t 1).2 (Int32.toNatClampNeg x6)) < 48 then cf_246_54 N X x3 x4 x6 t else cf_246_21 N X rc x1 x2 x3 x4 x6 t) else none) else none
theorem cr_246_12 {X : Nat → Option zz_C} {s : mS} {N : Nat} {d : Nat} (hd : 10 ≤ d) {rc : Nat → Nat → Int32 → Int32 → Int64 → Int32 → cS → kO} (hrc0 : ∀ {Q : zz_O → zz_H → Prop} {x1 : Nat} {x2 : Int32} {x3 : Int32} {x4 : Int64} {x6 : Int32} {h : zz_H} {t t' : cS} {o : kY}, kR h t s → rc 0 x1 x2 x3 x4 x6 t = some (t', o) → (∀ h', kR h' t' s → kE o Q h') → zz_J zp_P zt_tf zt_fd X d zm_246 6 [(0, .ref 3), (1, .ref x1), (2, .int x2), (3, .int x3), (4, .long x4), (6, .int x6)] [] h Q) {Q : zz_O → zz_H → Prop} {x1 : Nat} {x2 : Int32} {x3 : Int32} {x4 : Int64} {x6 : Int32} {h : zz_H} {t t' : cS} {o : kY} (hR : kR h t s) (hf : cf_246_12 N X rc x1 x2 x3 x4 x6 t = some (t', o)) (k : (∀ h', kR h' t' s → kE o Q h')) : zz_J zp_P zt_tf zt_fd X d zm_246 12 [(0, .ref 3), (1, .ref x1), (2, .int x2), (3, .int x3), (4, .long x4), (6, .int x6)] [] h Q := by
  unfold cf_246_12 at hf
  obtain ⟨e0, hf⟩ := ko_if hf
  obtain ⟨e1, hf⟩ := ko_if hf
  refine cb_246_12 hR e0 e1 (fun c {h} hR => ?_) (fun c {h} hR => ?_)
  · rw [if_pos c] at hf
    exact cr_246_54 hd hR hf k
  · rw [if_neg c] at hf
    exact cr_246_21 hd hrc0 hR hf k
def cf_246_6 (N : Nat) (X : Nat → Option zz_C) (rc : Nat → Nat → Int32 → Int32 → Int64 → Int32 → cS → kO) (x1 : Nat) (x2 : Int32) (x3 : Int32) (x4 : Int64) (x6 : Int32) (t : cS) : kO := if x2 ≤ x6 then cf_246_54 N X x3 x4 x6 t else cf_246_12 N X rc x1 x2 x3 x4 x6 t
theorem cr_246_6 {X : Nat → Option zz_C} {s : mS} {N : Nat} {d : Nat} (hd : 10 ≤ d) {rc : Nat → Nat → Int32 → Int32 → Int64 → Int32 → cS → kO} (hrc0 : ∀ {Q : zz_O → zz_H → Prop} {x1 : Nat} {x2 : Int32} {x3 : Int32} {x4 : Int64} {x6 : Int32} {h : zz_H} {t t' : cS} {o : kY}, kR h t s → rc 0 x1 x2 x3 x4 x6 t = some (t', o) → (∀ h', kR h' t' s → kE o Q h') → zz_J zp_P zt_tf zt_fd X d zm_246 6 [(0, .ref 3), (1, .ref x1), (2, .int x2), (3, .int x3), (4, .long x4), (6, .int x6)] [] h Q) {Q : zz_O → zz_H → Prop} {x1 : Nat} {x2 : Int32} {x3 : Int32} {x4 : Int64} {x6 : Int32} {h : zz_H} {t t' : cS} {o : kY} (hR : kR h t s) (hf : cf_246_6 N X rc x1 x2 x3 x4 x6 t = some (t', o)) (k : (∀ h', kR h' t' s → kE o Q h')) : zz_J zp_P zt_tf zt_fd X d zm_246 6 [(0, .ref 3), (1, .ref x1), (2, .int x2), (3, .int x3), (4, .long x4), (6, .int x6)] [] h Q := by
  unfold cf_246_6 at hf
  refine cb_246_6 hR  (fun c {h} hR => ?_) (fun c {h} hR => ?_)
  · rw [if_pos c] at hf
    exact cr_246_54 hd hR hf k
  · rw [if_neg c] at hf
    exact cr_246_12 hd hrc0 hR hf k
def cf_246_L6 (N : Nat) (X : Nat → Option zz_C) : Nat → Nat → Nat → Int32 → Int32 → Int64 → Int32 → cS → kO
  | 0, _, _, _, _, _, _, _ => none
  | n + 1, l, x1, x2, x3, x4, x6, t => if l = 0 then cf_246_6 N X (cf_246_L6 N X n) x1 x2 x3 x4 x6 t else none
theorem cr_246_L6 {X : Nat → Option zz_C} {s : mS} {N : Nat} {d : Nat} (hd : 10 ≤ d) : ∀ n : Nat, (∀ {Q : zz_O → zz_H → Prop} {x1 : Nat} {x2 : Int32} {x3 : Int32} {x4 : Int64} {x6 : Int32} {h : zz_H} {t t' : cS} {o : kY}, kR h t s → cf_246_L6 N X n 0 x1 x2 x3 x4 x6 t = some (t', o) → (∀ h', kR h' t' s → kE o Q h') → zz_J zp_P zt_tf zt_fd X d zm_246 6 [(0, .ref 3), (1, .ref x1), (2, .int x2), (3, .int x3), (4, .long x4), (6, .int x6)] [] h Q) := by
  intro n
  induction n with
  | zero => exact (fun _ hf _ => by cases hf)
  | succ n ih =>
    have h0 := @ih
    intro Q _ _ _ _ _ h t t' o hR hf k
    unfold cf_246_L6 at hf
    rw [if_pos rfl] at hf
    exact cr_246_6 hd h0 hR hf k
def cf_246_0 (N : Nat) (X : Nat → Option zz_C) (x1 : Nat) (x2 : Int32) (x3 : Int32) (t : cS) : kO := cf_246_L6 N X N 0 x1 x2 x3 0 x3 t
theorem cr_246_0 {X : Nat → Option zz_C} {s : mS} {N : Nat} {d : Nat} (hd : 10 ≤ d) {Q : zz_O → zz_H → Prop} {x1 : Nat} {x2 : Int32} {x3 : Int32} {h : zz_H} {t t' : cS} {o : kY} (hR : kR h t s) (hf : cf_246_0 N X x1 x2 x3 t = some (t', o)) (k : (∀ h', kR h' t' s → kE o Q h')) : zz_J zp_P zt_tf zt_fd X d zm_246 0 [(0, .ref 3), (1, .ref x1), (2, .int x2), (3, .int x3)] [] h Q := by
  unfold cf_246_0 at hf
  exact cb_246_0 hR  (fun hR => cr_246_L6 hd N hR hf k)
/-- scanNumber -/
def cf_246 (N : Nat) (X : Nat → Option zz_C) (x1 : Nat) (x2 : Int32) (x3 : Int32) (t : cS) : kO := cf_246_0 N X x1 x2 x3 t
theorem cr_246 {X : Nat → Option zz_C} {s : mS} {N : Nat} {d : Nat} (hd : 10 ≤ d) {Q : zz_O → zz_H → Prop} {x1 : Nat} {x2 : Int32} {x3 : Int32} {h : zz_H} {t t' : cS} {o : kY} (hR : kR h t s) (hf : cf_246 N X x1 x2 x3 t = some (t', o)) (k : ∀ h', kR h' t' s → kE o Q h') : zz_J zp_P zt_tf zt_fd X d zm_246 0 [(0, .ref 3), (1, .ref x1), (2, .int x2), (3, .int x3)] [] h Q := by
  unfold cf_246 at hf
  exact zz_J.weak (cr_246_0 hd hR hf k) rfl ⟨rfl, rfl, rfl, rfl, trivial⟩
/-! yJ0_coder_7d493 ()B -/
theorem cb_358_0 {X : Nat → Option zz_C} {h : zz_H} {t : cS} {s : mS} {d : Nat} {Q : zz_O → zz_H → Prop} {x0 : Nat} (hR : kR h t s) (k1 : (1 : Int32) = 0 → (∀ {h : zz_H}, kR h t s → zz_J zp_P zt_tf zt_fd X d zm_358 13 [] [] h Q)) (k2 : ¬ (1 : Int32) = 0 → (∀ {h : zz_H}, kR h t s → zz_J zp_P zt_tf zt_fd X d zm_358 6 [(0, .ref x0)] [] h Q)) : zz_J zp_P zt_tf zt_fd X d zm_358 0 [(0, .ref x0)] [] h Q := by
  refine zz_J.c 3 (.int 1) rfl rfl rfl rfl ?_
  refine zz_J.b1 13 6 (A := (1 : Int32) = 0) rfl rfl (by decide) rfl rfl (fun c => ?_) (fun c => ?_)
  · exact zz_J.weak (k1 c hR) rfl trivial
  · exact zz_J.weak (k2 c hR) rfl ⟨rfl, trivial⟩
theorem cb_358_6 {X : Nat → Option zz_C} {h : zz_H} {t : cS} {s : mS} {d : Nat} {Q : zz_O → zz_H → Prop} {x0 : Nat} (hR : kR h t s) {w0 : Int32} (e0 : hgi X [] x0 21 1 = some w0) (k : ∀ {h : zz_H}, kR h t s → zz_J zp_P zt_tf zt_fd X d zm_358 14 [] [.int w0] h Q) : zz_J zp_P zt_tf zt_fd X d zm_358 6 [(0, .ref x0)] [] h Q := by
  refine zz_J.n 7 rfl rfl rfl ?_
  refine zz_J.gi 10 rfl e0 rfl ?_
  refine zz_J.n 14 rfl rfl rfl ?_
  exact zz_J.weak (k hR) rfl trivial
theorem cb_358_13 {X : Nat → Option zz_C} {h : zz_H} {t : cS} {s : mS} {d : Nat} {Q : zz_O → zz_H → Prop}  (hR : kR h t s) (k : ∀ {h : zz_H}, kR h t s → zz_J zp_P zt_tf zt_fd X d zm_358 14 [] [.int 1] h Q) : zz_J zp_P zt_tf zt_fd X d zm_358 13 [] [] h Q := by
  refine zz_J.c 14 (.int 1) rfl rfl rfl rfl ?_
  exact zz_J.weak (k hR) rfl trivial
theorem cb_358_14 {X : Nat → Option zz_C} {h : zz_H} {t : cS} {s : mS} {d : Nat} {Q : zz_O → zz_H → Prop} {y0 : Int32} (hR : kR h t s) (k : ∀ {h : zz_H}, kR h t s → Q (.inl (some (.int y0))) h) (rb : zz_reti (some .byte) y0 = true) : zz_J zp_P zt_tf zt_fd X d zm_358 14 [] [.int y0] h Q := by
  refine zz_J.ret rfl rfl (if_pos ⟨rfl, rb⟩) ?_
  exact k hR
def cf_358_14 (N : Nat) (X : Nat → Option zz_C) (y0 : Int32) (t : cS) : kO := if zz_reti (some .byte) y0 = true then some (t, .inl (some (.int y0))) else none
theorem cr_358_14 {X : Nat → Option zz_C} {s : mS} {N : Nat} {d : Nat} (hd : 0 ≤ d) {Q : zz_O → zz_H → Prop} {y0 : Int32} {h : zz_H} {t t' : cS} {o : kY} (hR : kR h t s) (hf : cf_358_14 N X y0 t = some (t', o)) (k : (∀ h', kR h' t' s → kE o Q h')) : zz_J zp_P zt_tf zt_fd X d zm_358 14 [] [.int y0] h Q := by
  unfold cf_358_14 at hf
  obtain ⟨rb, hf⟩ := ko_if hf
  cases hf
  exact cb_358_14 hR  (fun {h} hR => k h hR) rb
def cf_358_13 (N : Nat) (X : Nat → Option zz_C)  (t : cS) : kO := cf_358_14 N X 1 t
theorem cr_358_13 {X : Nat → Option zz_C} {s : mS} {N : Nat} {d : Nat} (hd : 0 ≤ d) {Q : zz_O → zz_H → Prop}  {h : zz_H} {t t' : cS} {o : kY} (hR : kR h t s) (hf : cf_358_13 N X  t = some (t', o)) (k : (∀ h', kR h' t' s → kE o Q h')) : zz_J zp_P zt_tf zt_fd X d zm_358 13 [] [] h Q := by
  unfold cf_358_13 at hf
  exact cb_358_13 hR  (fun hR => cr_358_14 hd hR hf k)
def cf_358_6 (N : Nat) (X : Nat → Option zz_C) (x0 : Nat) (t : cS) : kO := co_b (hgi X [] x0 21 1) (fun w0 => cf_358_14 N X w0 t)
theorem cr_358_6 {X : Nat → Option zz_C} {s : mS} {N : Nat} {d : Nat} (hd : 0 ≤ d) {Q : zz_O → zz_H → Prop} {x0 : Nat} {h : zz_H} {t t' : cS} {o : kY} (hR : kR h t s) (hf : cf_358_6 N X x0 t = some (t', o)) (k : (∀ h', kR h' t' s → kE o Q h')) : zz_J zp_P zt_tf zt_fd X d zm_358 6 [(0, .ref x0)] [] h Q := by
  unfold cf_358_6 at hf
  obtain ⟨w0, e0, hf⟩ := co_b_ok hf
  exact cb_358_6 hR e0 (fun hR => cr_358_14 hd hR hf k)
def cf_358_0 (N : Nat) (X : Nat → Option zz_C) (x0 : Nat) (t : cS) : kO := if (1 : Int32) = 0 then cf_358_13 N X  t else cf_358_6 N X x0 t
theorem cr_358_0 {X : Nat → Option zz_C} {s : mS} {N : Nat} {d : Nat} (hd : 0 ≤ d) {Q : zz_O → zz_H → Prop} {x0 : Nat} {h : zz_H} {t t' : cS} {o : kY} (hR : kR h t s) (hf : cf_358_0 N X x0 t = some (t', o)) (k : (∀ h', kR h' t' s → kE o Q h')) : zz_J zp_P zt_tf zt_fd X d zm_358 0 [(0, .ref x0)] [] h Q := by
  unfold cf_358_0 at hf
  refine cb_358_0 hR  (fun c {h} hR => ?_) (fun c {h} hR => ?_)
  · rw [if_pos c] at hf
    exact cr_358_13 hd hR hf k
  · rw [if_neg c] at hf
    exact cr_358_6 hd hR hf k
/-- coder -/
def cf_358 (N : Nat) (X : Nat → Option zz_C) (x0 : Nat) (t : cS) : kO := cf_358_0 N X x0 t
theorem cr_358 {X : Nat → Option zz_C} {s : mS} {N : Nat} {d : Nat} (hd : 0 ≤ d) {Q : zz_O → zz_H → Prop} {x0 : Nat} {h : zz_H} {t t' : cS} {o : kY} (hR : kR h t s) (hf : cf_358 N X x0 t = some (t', o)) (k : ∀ h', kR h' t' s → kE o Q h') : zz_J zp_P zt_tf zt_fd X d zm_358 0 [(0, .ref x0)] [] h Q := by
  unfold cf_358 at hf
  exact zz_J.weak (cr_358_0 hd hR hf k) rfl ⟨rfl, trivial⟩
/-! yJ0_length_8abf5 ()I -/
theorem cb_357_0 {X : Nat → Option zz_C} {h : zz_H} {t : cS} {s : mS} {d : Nat} {Q : zz_O → zz_H → Prop} {x0 : Nat} (hR : kR h t s) {w0 : Nat} (e0 : hgr X [] x0 21 0 = some w0) (e1 : ¬ w0 < zz_out) {w2 : Int32} (e2 : hlen X [] w0 = some w2) (e3 : ¬ x0 < zz_out) (e4 : hcl X [] x0 21 = true) (k : ∀ {h : zz_H}, kR h t s → zz_J zp_P zt_tf zt_fd X d zm_358 0 [(0, .ref x0)] [] h (zz_after 21 Q (fun v h' => zz_J zp_P zt_tf zt_fd X (d + 1) zm_357 9 [] (v.toList ++ [.int w2]) h' Q))) : zz_J zp_P zt_tf zt_fd X (d + 1) zm_357 0 [(0, .ref x0)] [] h Q := by
  refine zz_J.n 1 rfl rfl rfl ?_
  refine zz_J.gr 4 rfl e0 rfl ?_
  refine zz_J.ln 5 rfl ((hx_ln e1).trans e2) rfl ?_
  refine zz_J.n 6 rfl rfl rfl ?_
  refine zz_J.cv 9 (as := [.int w2]) rfl rfl ((hx_cl e3).trans e4) (by decide) (Nat.le_of_ble_eq_true rfl) (Nat.le_of_ble_eq_true rfl) rfl (Nat.le_of_ble_eq_true rfl) rfl ?_
  refine zz_J.mono (k hR) ?_
  intro o h' hE
  cases o with
  | inl v => exact zz_J.weak hE rfl trivial
  | inr q => exact hE
theorem cb_357_9 {X : Nat → Option zz_C} {h : zz_H} {t : cS} {s : mS} {d : Nat} {Q : zz_O → zz_H → Prop} {y0 : Int32} {y1 : Int32} (hR : kR h t s) (k : ∀ {h : zz_H}, kR h t s → Q (.inl (some (.int (y0 >>> (y1 &&& 31))))) h) : zz_J zp_P zt_tf zt_fd X d zm_357 9 [] [.int y1, .int y0] h Q := by
  refine zz_J.n 10 rfl rfl rfl ?_
  refine zz_J.ret rfl rfl rfl ?_
  exact k hR
def cf_357_9 (N : Nat) (X : Nat → Option zz_C) (y0 : Int32) (y1 : Int32) (t : cS) : kO := some (t, .inl (some (.int (y0 >>> (y1 &&& 31)))))
theorem cr_357_9 {X : Nat → Option zz_C} {s : mS} {N : Nat} {d : Nat} (hd : 1 ≤ d) {Q : zz_O → zz_H → Prop} {y0 : Int32} {y1 : Int32} {h : zz_H} {t t' : cS} {o : kY} (hR : kR h t s) (hf : cf_357_9 N X y0 y1 t = some (t', o)) (k : (∀ h', kR h' t' s → kE o Q h')) : zz_J zp_P zt_tf zt_fd X d zm_357 9 [] [.int y1, .int y0] h Q := by
  unfold cf_357_9 at hf
  cases hf
  exact cb_357_9 hR  (fun {h} hR => k h hR)
def cf_357_0 (N : Nat) (X : Nat → Option zz_C) (x0 : Nat) (t : cS) : kO := co_b (hgr X [] x0 21 0) (fun w0 => if ¬ w0 < zz_out then (co_b (hlen X [] w0) (fun w2 => if ¬ x0 < zz_out then (if hcl X [] x0 21 = true then (ko_call 21 (cf_358 N X x0 t) (fun g1 v1 => co_i v1 (fun y => cf_357_9 N X w2 y g1))) else none) else none)) else none)
theorem cr_357_0 {X : Nat → Option zz_C} {s : mS} {N : Nat} {d : Nat} (hd : 1 ≤ d) {Q : zz_O → zz_H → Prop} {x0 : Nat} {h : zz_H} {t t' : cS} {o : kY} (hR : kR h t s) (hf : cf_357_0 N X x0 t = some (t', o)) (k : (∀ h', kR h' t' s → kE o Q h')) : zz_J zp_P zt_tf zt_fd X d zm_357 0 [(0, .ref x0)] [] h Q := by
  unfold cf_357_0 at hf
  obtain ⟨w0, e0, hf⟩ := co_b_ok hf
  obtain ⟨e1, hf⟩ := ko_if hf
  obtain ⟨w2, e2, hf⟩ := co_b_ok hf
  obtain ⟨e3, hf⟩ := ko_if hf
  obtain ⟨e4, hf⟩ := ko_if hf
  obtain ⟨d', rfl⟩ : ∃ d', d = d' + 1 := ⟨d - 1, by omega⟩
  refine cb_357_0 hR e0 e1 e2 e3 e4 (fun {h} hR => ?_)
  rcases ko_call_ok hf with ⟨g1, v1, er, hf⟩ | ⟨g1, er, hq⟩
  · obtain ⟨y, hv, hf2⟩ := co_i_ok hf
    clear hf
    have hf := hf2
    clear hf2
    subst hv
    refine cr_358 (by omega) hR er (fun h hR => ?_)
    exact cr_357_9 hd hR hf k
  · refine cr_358 (by omega) hR er (fun h hR => ?_)
    exact ko_thrown hq hR k
/-- length -/
def cf_357 (N : Nat) (X : Nat → Option zz_C) (x0 : Nat) (t : cS) : kO := cf_357_0 N X x0 t
theorem cr_357 {X : Nat → Option zz_C} {s : mS} {N : Nat} {d : Nat} (hd : 1 ≤ d) {Q : zz_O → zz_H → Prop} {x0 : Nat} {h : zz_H} {t t' : cS} {o : kY} (hR : kR h t s) (hf : cf_357 N X x0 t = some (t', o)) (k : ∀ h', kR h' t' s → kE o Q h') : zz_J zp_P zt_tf zt_fd X d zm_357 0 [(0, .ref x0)] [] h Q := by
  unfold cf_357 at hf
  exact zz_J.weak (cr_357_0 hd hR hf k) rfl ⟨rfl, trivial⟩
/-! yJ0_isLatin1_aae02 ()Z -/
theorem cb_361_0 {X : Nat → Option zz_C} {h : zz_H} {t : cS} {s : mS} {d : Nat} {Q : zz_O → zz_H → Prop} {x0 : Nat} (hR : kR h t s) (k1 : (1 : Int32) = 0 → (∀ {h : zz_H}, kR h t s → zz_J zp_P zt_tf zt_fd X d zm_361 17 [] [] h Q)) (k2 : ¬ (1 : Int32) = 0 → (∀ {h : zz_H}, kR h t s → zz_J zp_P zt_tf zt_fd X d zm_361 6 [(0, .ref x0)] [] h Q)) : zz_J zp_P zt_tf zt_fd X d zm_361 0 [(0, .ref x0)] [] h Q := by
  refine zz_J.c 3 (.int 1) rfl rfl rfl rfl ?_
  refine zz_J.b1 17 6 (A := (1 : Int32) = 0) rfl rfl (by decide) rfl rfl (fun c => ?_) (fun c => ?_)
  · exact zz_J.weak (k1 c hR) rfl trivial
  · exact zz_J.weak (k2 c hR) rfl ⟨rfl, trivial⟩
theorem cb_361_6 {X : Nat → Option zz_C} {h : zz_H} {t : cS} {s : mS} {d : Nat} {Q : zz_O → zz_H → Prop} {x0 : Nat} (hR : kR h t s) {w0 : Int32} (e0 : hgi X [] x0 21 1 = some w0) (k1 : ¬ w0 = 0 → (∀ {h : zz_H}, kR h t s → zz_J zp_P zt_tf zt_fd X d zm_361 17 [] [] h Q)) (k2 : ¬ ¬ w0 = 0 → (∀ {h : zz_H}, kR h t s → zz_J zp_P zt_tf zt_fd X d zm_361 13 [] [] h Q)) : zz_J zp_P zt_tf zt_fd X d zm_361 6 [(0, .ref x0)] [] h Q := by
  refine zz_J.n 7 rfl rfl rfl ?_
  refine zz_J.gi 10 rfl e0 rfl ?_
  refine zz_J.b1 17 13 (A := ¬ w0 = 0) rfl (zz_cond_ne _ _) (by decide) rfl rfl (fun c => ?_) (fun c => ?_)
  · exact zz_J.weak (k1 c hR) rfl trivial
  · exact zz_J.weak (k2 c hR) rfl trivial
theorem cb_361_13 {X : Nat → Option zz_C} {h : zz_H} {t : cS} {s : mS} {d : Nat} {Q : zz_O → zz_H → Prop}  (hR : kR h t s) (k : ∀ {h : zz_H}, kR h t s → zz_J zp_P zt_tf zt_fd X d zm_361 18 [] [.int 1] h Q) : zz_J zp_P zt_tf zt_fd X d zm_361 13 [] [] h Q := by
  refine zz_J.c 14 (.int 1) rfl rfl rfl rfl ?_
  refine zz_J.n 18 rfl rfl rfl ?_
  exact zz_J.weak (k hR) rfl trivial
theorem cb_361_17 {X : Nat → Option zz_C} {h : zz_H} {t : cS} {s : mS} {d : Nat} {Q : zz_O → zz_H → Prop}  (hR : kR h t s) (k : ∀ {h : zz_H}, kR h t s → zz_J zp_P zt_tf zt_fd X d zm_361 18 [] [.int 0] h Q) : zz_J zp_P zt_tf zt_fd X d zm_361 17 [] [] h Q := by
  refine zz_J.c 18 (.int 0) rfl rfl rfl rfl ?_
  exact zz_J.weak (k hR) rfl trivial
theorem cb_361_18 {X : Nat → Option zz_C} {h : zz_H} {t : cS} {s : mS} {d : Nat} {Q : zz_O → zz_H → Prop} {y0 : Int32} (hR : kR h t s) (k : ∀ {h : zz_H}, kR h t s → Q (.inl (some (.int y0))) h) (rb : zz_reti (some .boolean) y0 = true) : zz_J zp_P zt_tf zt_fd X d zm_361 18 [] [.int y0] h Q := by
  refine zz_J.ret rfl rfl (if_pos ⟨rfl, rb⟩) ?_
  exact k hR
def cf_361_18 (N : Nat) (X : Nat → Option zz_C) (y0 : Int32) (t : cS) : kO := if zz_reti (some .boolean) y0 = true then some (t, .inl (some (.int y0))) else none
theorem cr_361_18 {X : Nat → Option zz_C} {s : mS} {N : Nat} {d : Nat} (hd : 0 ≤ d) {Q : zz_O → zz_H → Prop} {y0 : Int32} {h : zz_H} {t t' : cS} {o : kY} (hR : kR h t s) (hf : cf_361_18 N X y0 t = some (t', o)) (k : (∀ h', kR h' t' s → kE o Q h')) : zz_J zp_P zt_tf zt_fd X d zm_361 18 [] [.int y0] h Q := by
  unfold cf_361_18 at hf
  obtain ⟨rb, hf⟩ := ko_if hf
  cases hf
  exact cb_361_18 hR  (fun {h} hR => k h hR) rb
def cf_361_17 (N : Nat) (X : Nat → Option zz_C)  (t : cS) : kO := cf_361_18 N X 0 t
theorem cr_361_17 {X : Nat → Option zz_C} {s : mS} {N : Nat} {d : Nat} (hd : 0 ≤ d) {Q : zz_O → zz_H → Prop}  {h : zz_H} {t t' : cS} {o : kY} (hR : kR h t s) (hf : cf_361_17 N X  t = some (t', o)) (k : (∀ h', kR h' t' s → kE o Q h')) : zz_J zp_P zt_tf zt_fd X d zm_361 17 [] [] h Q := by
  unfold cf_361_17 at hf
  exact cb_361_17 hR  (fun hR => cr_361_18 hd hR hf k)
def cf_361_13 (N : Nat) (X : Nat → Option zz_C)  (t : cS) : kO := cf_361_18 N X 1 t
theorem cr_361_13 {X : Nat → Option zz_C} {s : mS} {N : Nat} {d : Nat} (hd : 0 ≤ d) {Q : zz_O → zz_H → Prop}  {h : zz_H} {t t' : cS} {o : kY} (hR : kR h t s) (hf : cf_361_13 N X  t = some (t', o)) (k : (∀ h', kR h' t' s → kE o Q h')) : zz_J zp_P zt_tf zt_fd X d zm_361 13 [] [] h Q := by
  unfold cf_361_13 at hf
  exact cb_361_13 hR  (fun hR => cr_361_18 hd hR hf k)
def cf_361_6 (N : Nat) (X : Nat → Option zz_C) (x0 : Nat) (t : cS) : kO := co_b (hgi X [] x0 21 1) (fun w0 => if ¬ w0 = 0 then cf_361_17 N X  t else cf_361_13 N X  t)
theorem cr_361_6 {X : Nat → Option zz_C} {s : mS} {N : Nat} {d : Nat} (hd : 0 ≤ d) {Q : zz_O → zz_H → Prop} {x0 : Nat} {h : zz_H} {t t' : cS} {o : kY} (hR : kR h t s) (hf : cf_361_6 N X x0 t = some (t', o)) (k : (∀ h', kR h' t' s → kE o Q h')) : zz_J zp_P zt_tf zt_fd X d zm_361 6 [(0, .ref x0)] [] h Q := by
  unfold cf_361_6 at hf
  obtain ⟨w0, e0, hf⟩ := co_b_ok hf
  refine cb_361_6 hR e0 (fun c {h} hR => ?_) (fun c {h} hR => ?_)
  · rw [if_pos c] at hf
    exact cr_361_17 hd hR hf k
  · rw [if_neg c] at hf
    exact cr_361_13 hd hR hf k
def cf_361_0 (N : Nat) (X : Nat → Option zz_C) (x0 : Nat) (t : cS) : kO := if (1 : Int32) = 0 then cf_361_17 N X  t else cf_361_6 N X x0 t
theorem cr_361_0 {X : Nat → Option zz_C} {s : mS} {N : Nat} {d : Nat} (hd : 0 ≤ d) {Q : zz_O → zz_H → Prop} {x0 : Nat} {h : zz_H} {t t' : cS} {o : kY} (hR : kR h t s) (hf : cf_361_0 N X x0 t = some (t', o)) (k : (∀ h', kR h' t' s → kE o Q h')) : zz_J zp_P zt_tf zt_fd X d zm_361 0 [(0, .ref x0)] [] h Q := by
  unfold cf_361_0 at hf
  refine cb_361_0 hR  (fun c {h} hR => ?_) (fun c {h} hR => ?_)
  · rw [if_pos c] at hf
    exact cr_361_17 hd hR hf k
  · rw [if_neg c] at hf
    exact cr_361_6 hd hR hf k
/-- isLatin1 -/
def cf_361 (N : Nat) (X : Nat → Option zz_C) (x0 : Nat) (t : cS) : kO := cf_361_0 N X x0 t
theorem cr_361 {X : Nat → Option zz_C} {s : mS} {N : Nat} {d : Nat} (hd : 0 ≤ d) {Q : zz_O → zz_H → Prop} {x0 : Nat} {h : zz_H} {t t' : cS} {o : kY} (hR : kR h t s) (hf : cf_361 N X x0 t = some (t', o)) (k : ∀ h', kR h' t' s → kE o Q h') : zz_J zp_P zt_tf zt_fd X d zm_361 0 [(0, .ref x0)] [] h Q := by
  unfold cf_361 at hf
  exact zz_J.weak (cr_361_0 hd hR hf k) rfl ⟨rfl, trivial⟩
/-! yJ1_canEncode_9a6ad (I)Z -/
theorem cb_362_0 {X : Nat → Option zz_C} {h : zz_H} {t : cS} {s : mS} {d : Nat} {Q : zz_O → zz_H → Prop} {x0 : Int32} (hR : kR h t s) (k1 : x0 < 0 → (∀ {h : zz_H}, kR h t s → zz_J zp_P zt_tf zt_fd X d zm_362 15 [] [] h Q)) (k2 : ¬ x0 < 0 → (∀ {h : zz_H}, kR h t s → zz_J zp_P zt_tf zt_fd X d zm_362 4 [(0, .int x0)] [] h Q)) : zz_J zp_P zt_tf zt_fd X d zm_362 0 [(0, .int x0)] [] h Q := by
  refine zz_J.n 1 rfl rfl rfl ?_
  refine zz_J.b1 15 4 (A := x0 < 0) rfl rfl (by decide) rfl rfl (fun c => ?_) (fun c => ?_)
  · exact zz_J.weak (k1 c hR) rfl trivial
  · exact zz_J.weak (k2 c hR) rfl ⟨rfl, trivial⟩
theorem cb_362_4 {X : Nat → Option zz_C} {h : zz_H} {t : cS} {s : mS} {d : Nat} {Q : zz_O → zz_H → Prop} {x0 : Int32} (hR : kR h t s) (k1 : 255 < x0 → (∀ {h : zz_H}, kR h t s → zz_J zp_P zt_tf zt_fd X d zm_362 15 [] [] h Q)) (k2 : ¬ 255 < x0 → (∀ {h : zz_H}, kR h t s → zz_J zp_P zt_tf zt_fd X d zm_362 11 [] [] h Q)) : zz_J zp_P zt_tf zt_fd X d zm_362 4 [(0, .int x0)] [] h Q := by
  refine zz_J.n 5 rfl rfl rfl ?_
  refine zz_J.c 8 (.int 255) rfl rfl rfl rfl ?_
  refine zz_J.b2 15 11 (A := 255 < x0) rfl rfl (by decide) rfl rfl (fun c => ?_) (fun c => ?_)
  · exact zz_J.weak (k1 c hR) rfl trivial
  · exact zz_J.weak (k2 c hR) rfl trivial
theorem cb_362_11 {X : Nat → Option zz_C} {h : zz_H} {t : cS} {s : mS} {d : Nat} {Q : zz_O → zz_H → Prop}  (hR : kR h t s) (k : ∀ {h : zz_H}, kR h t s → zz_J zp_P zt_tf zt_fd X d zm_362 16 [] [.int 1] h Q) : zz_J zp_P zt_tf zt_fd X d zm_362 11 [] [] h Q := by
  refine zz_J.c 12 (.int 1) rfl rfl rfl rfl ?_
  refine zz_J.n 16 rfl rfl rfl ?_
  exact zz_J.weak (k hR) rfl trivial
theorem cb_362_15 {X : Nat → Option zz_C} {h : zz_H} {t : cS} {s : mS} {d : Nat} {Q : zz_O → zz_H → Prop}  (hR : kR h t s) (k : ∀ {h : zz_H}, kR h t s → zz_J zp_P zt_tf zt_fd X d zm_362 16 [] [.int 0] h Q) : zz_J zp_P zt_tf zt_fd X d zm_362 15 [] [] h Q := by
  refine zz_J.c 16 (.int 0) rfl rfl rfl rfl ?_
  exact zz_J.weak (k hR) rfl trivial
theorem cb_362_16 {X : Nat → Option zz_C} {h : zz_H} {t : cS} {s : mS} {d : Nat} {Q : zz_O → zz_H → Prop} {y0 : Int32} (hR : kR h t s) (k : ∀ {h : zz_H}, kR h t s → Q (.inl (some (.int y0))) h) (rb : zz_reti (some .boolean) y0 = true) : zz_J zp_P zt_tf zt_fd X d zm_362 16 [] [.int y0] h Q := by
  refine zz_J.ret rfl rfl (if_pos ⟨rfl, rb⟩) ?_
  exact k hR
def cf_362_16 (N : Nat) (X : Nat → Option zz_C) (y0 : Int32) (t : cS) : kO := if zz_reti (some .boolean) y0 = true then some (t, .inl (some (.int y0))) else none
theorem cr_362_16 {X : Nat → Option zz_C} {s : mS} {N : Nat} {d : Nat} (hd : 0 ≤ d) {Q : zz_O → zz_H → Prop} {y0 : Int32} {h : zz_H} {t t' : cS} {o : kY} (hR : kR h t s) (hf : cf_362_16 N X y0 t = some (t', o)) (k : (∀ h', kR h' t' s → kE o Q h')) : zz_J zp_P zt_tf zt_fd X d zm_362 16 [] [.int y0] h Q := by
  unfold cf_362_16 at hf
  obtain ⟨rb, hf⟩ := ko_if hf
  cases hf
  exact cb_362_16 hR  (fun {h} hR => k h hR) rb
def cf_362_15 (N : Nat) (X : Nat → Option zz_C)  (t : cS) : kO := cf_362_16 N X 0 t
theorem cr_362_15 {X : Nat → Option zz_C} {s : mS} {N : Nat} {d : Nat} (hd : 0 ≤ d) {Q : zz_O → zz_H → Prop}  {h : zz_H} {t t' : cS} {o : kY} (hR : kR h t s) (hf : cf_362_15 N X  t = some (t', o)) (k : (∀ h', kR h' t' s → kE o Q h')) : zz_J zp_P zt_tf zt_fd X d zm_362 15 [] [] h Q := by
  unfold cf_362_15 at hf
  exact cb_362_15 hR  (fun hR => cr_362_16 hd hR hf k)
def cf_362_11 (N : Nat) (X : Nat → Option zz_C)  (t : cS) : kO := cf_362_16 N X 1 t
theorem cr_362_11 {X : Nat → Option zz_C} {s : mS} {N : Nat} {d : Nat} (hd : 0 ≤ d) {Q : zz_O → zz_H → Prop}  {h : zz_H} {t t' : cS} {o : kY} (hR : kR h t s) (hf : cf_362_11 N X  t = some (t', o)) (k : (∀ h', kR h' t' s → kE o Q h')) : zz_J zp_P zt_tf zt_fd X d zm_362 11 [] [] h Q := by
  unfold cf_362_11 at hf
  exact cb_362_11 hR  (fun hR => cr_362_16 hd hR hf k)
def cf_362_4 (N : Nat) (X : Nat → Option zz_C) (x0 : Int32) (t : cS) : kO := if 255 < x0 then cf_362_15 N X  t else cf_362_11 N X  t
theorem cr_362_4 {X : Nat → Option zz_C} {s : mS} {N : Nat} {d : Nat} (hd : 0 ≤ d) {Q : zz_O → zz_H → Prop} {x0 : Int32} {h : zz_H} {t t' : cS} {o : kY} (hR : kR h t s) (hf : cf_362_4 N X x0 t = some (t', o)) (k : (∀ h', kR h' t' s → kE o Q h')) : zz_J zp_P zt_tf zt_fd X d zm_362 4 [(0, .int x0)] [] h Q := by
  unfold cf_362_4 at hf
  refine cb_362_4 hR  (fun c {h} hR => ?_) (fun c {h} hR => ?_)
  · rw [if_pos c] at hf
    exact cr_362_15 hd hR hf k
  · rw [if_neg c] at hf
    exact cr_362_11 hd hR hf k
def cf_362_0 (N : Nat) (X : Nat → Option zz_C) (x0 : Int32) (t : cS) : kO := if x0 < 0 then cf_362_15 N X  t else cf_362_4 N X x0 t
theorem cr_362_0 {X : Nat → Option zz_C} {s : mS} {N : Nat} {d : Nat} (hd : 0 ≤ d) {Q : zz_O → zz_H → Prop} {x0 : Int32} {h : zz_H} {t t' : cS} {o : kY} (hR : kR h t s) (hf : cf_362_0 N X x0 t = some (t', o)) (k : (∀ h', kR h' t' s → kE o Q h')) : zz_J zp_P zt_tf zt_fd X d zm_362 0 [(0, .int x0)] [] h Q := by
  unfold cf_362_0 at hf
  refine cb_362_0 hR  (fun c {h} hR => ?_) (fun c {h} hR => ?_)
  · rw [if_pos c] at hf
    exact cr_362_15 hd hR hf k
  · rw [if_neg c] at hf
    exact cr_362_4 hd hR hf k
/-- canEncode -/
def cf_362 (N : Nat) (X : Nat → Option zz_C) (x0 : Int32) (t : cS) : kO := cf_362_0 N X x0 t
theorem cr_362 {X : Nat → Option zz_C} {s : mS} {N : Nat} {d : Nat} (hd : 0 ≤ d) {Q : zz_O → zz_H → Prop} {x0 : Int32} {h : zz_H} {t t' : cS} {o : kY} (hR : kR h t s) (hf : cf_362 N X x0 t = some (t', o)) (k : ∀ h', kR h' t' s → kE o Q h') : zz_J zp_P zt_tf zt_fd X d zm_362 0 [(0, .int x0)] [] h Q := by
  unfold cf_362 at hf
  exact zz_J.weak (cr_362_0 hd hR hf k) rfl ⟨rfl, trivial⟩
/-! yJ1_indexOfChar_4cfef ([BIII)I -/
theorem cb_364_0 {X : Nat → Option zz_C} {h : zz_H} {t : cS} {s : mS} {d : Nat} {Q : zz_O → zz_H → Prop} {x0 : Nat} {x1 : Int32} {x2 : Int32} {x3 : Int32} (hR : kR h t s) (k : ∀ {h : zz_H}, kR h t s → zz_J zp_P zt_tf zt_fd X d zm_364 7 [(0, .ref x0), (3, .int x3), (4, .int (Int8.toInt32 (Int32.toInt8 x1))), (5, .int x2)] [] h Q) : zz_J zp_P zt_tf zt_fd X d zm_364 0 [(0, .ref x0), (1, .int x1), (2, .int x2), (3, .int x3)] [] h Q := by
  refine zz_J.n 1 rfl rfl rfl ?_
  refine zz_J.n 2 rfl rfl rfl ?_
  refine zz_J.n 4 rfl rfl rfl ?_
  refine zz_J.n 5 rfl rfl rfl ?_
  refine zz_J.n 7 rfl rfl rfl ?_
  exact zz_J.weak (k hR) rfl ⟨rfl, rfl, rfl, rfl, trivial⟩
theorem cb_364_7 {X : Nat → Option zz_C} {h : zz_H} {t : cS} {s : mS} {d : Nat} {Q : zz_O → zz_H → Prop} {x0 : Nat} {x3 : Int32} {x4 : Int32} {x5 : Int32} (hR : kR h t s) (k1 : x3 ≤ x5 → (∀ {h : zz_H}, kR h t s → zz_J zp_P zt_tf zt_fd X d zm_364 31 [] [] h Q)) (k2 : ¬ x3 ≤ x5 → (∀ {h : zz_H}, kR h t s → zz_J zp_P zt_tf zt_fd X d zm_364 13 [(0, .ref x0), (3, .int x3), (4, .int x4), (5, .int x5)] [] h Q)) : zz_J zp_P zt_tf zt_fd X d zm_364 7 [(0, .ref x0), (3, .int x3), (4, .int x4), (5, .int x5)] [] h Q := by
  refine zz_J.n 9 rfl rfl rfl ?_
  refine zz_J.n 10 rfl rfl rfl ?_
  refine zz_J.b2 31 13 (A := x3 ≤ x5) rfl rfl (by decide) rfl rfl (fun c => ?_) (fun c => ?_)
  · exact zz_J.weak (k1 c hR) rfl trivial
  · exact zz_J.weak (k2 c hR) rfl ⟨rfl, rfl, rfl, rfl, trivial⟩
theorem cb_364_13 {X : Nat → Option zz_C} {h : zz_H} {t : cS} {s : mS} {d : Nat} {Q : zz_O → zz_H → Prop} {x0 : Nat} {x3 : Int32} {x4 : Int32} {x5 : Int32} (hR : kR h t s) (e0 : ¬ x0 < zz_out) {w1 : Int32} (e1 : hab X [] x0 x5 = some w1) (k1 : ¬ w1 = x4 → (∀ {h : zz_H}, kR h t s → zz_J zp_P zt_tf zt_fd X d zm_364 25 [(0, .ref x0), (3, .int x3), (4, .int x4), (5, .int x5)] [] h Q)) (k2 : ¬ ¬ w1 = x4 → (∀ {h : zz_H}, kR h t s → zz_J zp_P zt_tf zt_fd X d zm_364 22 [(5, .int x5)] [] h Q)) : zz_J zp_P zt_tf zt_fd X d zm_364 13 [(0, .ref x0), (3, .int x3), (4, .int x4), (5, .int x5)] [] h Q := by
  refine zz_J.n 14 rfl rfl rfl ?_
  refine zz_J.n 16 rfl rfl rfl ?_
  refine zz_J.ab 17 rfl ((hx_ab e0).trans e1) rfl ?_
  refine zz_J.n 19 rfl rfl rfl ?_
  refine zz_J.b2 25 22 (A := ¬ w1 = x4) rfl (zz_cond_ne _ _) (by decide) rfl rfl (fun c => ?_) (fun c => ?_)
  · exact zz_J.weak (k1 c hR) rfl ⟨rfl, rfl, rfl, rfl, trivial⟩
  · exact zz_J.weak (k2 c hR) rfl ⟨rfl, trivial⟩
theorem cb_364_22 {X : Nat → Option zz_C} {h : zz_H} {t : cS} {s : mS} {d : Nat} {Q : zz_O → zz_H → Prop} {x5 : Int32} (hR : kR h t s) (k : ∀ {h : zz_H}, kR h t s → Q (.inl (some (.int x5))) h) : zz_J zp_P zt_tf zt_fd X d zm_364 22 [(5, .int x5)] [] h Q := by
  refine zz_J.n 24 rfl rfl rfl ?_
  refine zz_J.ret rfl rfl rfl ?_
  exact k hR
theorem cb_364_25 {X : Nat → Option zz_C} {h : zz_H} {t : cS} {s : mS} {d : Nat} {Q : zz_O → zz_H → Prop} {x0 : Nat} {x3 : Int32} {x4 : Int32} {x5 : Int32} (hR : kR h t s) (k : ∀ {h : zz_H}, kR h t s → zz_J zp_P zt_tf zt_fd X d zm_364 7 [(0, .ref x0), (3, .int x3), (4, .int x4), (5, .int (x5 + 1))] [] h Q) : zz_J zp_P zt_tf zt_fd X d zm_364 25 [(0, .ref x0), (3, .int x3), (4, .int x4), (5, .int x5)] [] h Q := by
  refine zz_J.n 28 rfl rfl rfl ?_
  refine zz_J.n 7 rfl rfl rfl ?_
  exact zz_J.weak (k hR) rfl ⟨rfl, rfl, rfl, rfl, trivial⟩
theorem cb_364_31 {X : Nat → Option zz_C} {h : zz_H} {t : cS} {s : mS} {d : Nat} {Q : zz_O → zz_H → Prop}  (hR : kR h t s) (k : ∀ {h : zz_H}, kR h t s → Q (.inl (some (.int (-1)))) h) : zz_J zp_P zt_tf zt_fd X d zm_364 31 [] [] h Q := by
  refine zz_J.c 32 (.int (-1)) rfl rfl rfl rfl ?_
  refine zz_J.ret rfl rfl rfl ?_
  exact k hR
def cf_364_31 (N : Nat) (X : Nat → Option zz_C)  (t : cS) : kO := some (t, .inl (some (.int (-1))))
theorem cr_364_31 {X : Nat → Option zz_C} {s : mS} {N : Nat} {d : Nat} (hd : 0 ≤ d) {Q : zz_O → zz_H → Prop}  {h : zz_H} {t t' : cS} {o : kY} (hR : kR h t s) (hf : cf_364_31 N X  t = some (t', o)) (k : (∀ h', kR h' t' s → kE o Q h')) : zz_J zp_P zt_tf zt_fd X d zm_364 31 [] [] h Q := by
  unfold cf_364_31 at hf
  cases hf
  exact cb_364_31 hR  (fun {h} hR => k h hR)
def cf_364_22 (N : Nat) (X : Nat → Option zz_C) (x5 : Int32) (t : cS) : kO := some (t, .inl (some (.int x5)))
theorem cr_364_22 {X : Nat → Option zz_C} {s : mS} {N : Nat} {d : Nat} (hd : 0 ≤ d) {Q : zz_O → zz_H → Prop} {x5 : Int32} {h : zz_H} {t t' : cS} {o : kY} (hR : kR h t s) (hf : cf_364_22 N X x5 t = some (t', o)) (k : (∀ h', kR h' t' s → kE o Q h')) : zz_J zp_P zt_tf zt_fd X d zm_364 22 [(5, .int x5)] [] h Q := by
  unfold cf_364_22 at hf
  cases hf
  exact cb_364_22 hR  (fun {h} hR => k h hR)
def cf_364_25 (N : Nat) (X : Nat → Option zz_C) (rc : Nat → Nat → Int32 → Int32 → Int32 → cS → kO) (x0 : Nat) (x3 : Int32) (x4 : Int32) (x5 : Int32) (t : cS) : kO := rc 0 x0 x3 x4 (x5 + 1) t
theorem cr_364_25 {X : Nat → Option zz_C} {s : mS} {N : Nat} {d : Nat} (hd : 0 ≤ d) {rc : Nat → Nat → Int32 → Int32 → Int32 → cS → kO} (hrc0 : ∀ {Q : zz_O → zz_H → Prop} {x0 : Nat} {x3 : Int32} {x4 : Int32} {x5 : Int32} {h : zz_H} {t t' : cS} {o : kY}, kR h t s → rc 0 x0 x3 x4 x5 t = some (t', o) → (∀ h', kR h' t' s → kE o Q h') → zz_J zp_P zt_tf zt_fd X d zm_364 7 [(0, .ref x0), (3, .int x3), (4, .int x4), (5, .int x5)] [] h Q) {Q : zz_O → zz_H → Prop} {x0 : Nat} {x3 : Int32} {x4 : Int32} {x5 : Int32} {h : zz_H} {t t' : cS} {o : kY} (hR : kR h t s) (hf : cf_364_25 N X rc x0 x3 x4 x5 t = some (t', o)) (k : (∀ h', kR h' t' s → kE o Q h')) : zz_J zp_P zt_tf zt_fd X d zm_364 25 [(0, .ref x0), (3, .int x3), (4, .int x4), (5, .int x5)] [] h Q := by
  unfold cf_364_25 at hf
  exact cb_364_25 hR  (fun hR => hrc0 hR hf k)
def cf_364_13 (N : Nat) (X : Nat → Option zz_C) (rc : Nat → Nat → Int32 → Int32 → Int32 → cS → kO) (x0 : Nat) (x3 : Int32) (x4 : Int32) (x5 : Int32) (t : cS) : kO := if ¬ x0 < zz_out then (co_b (hab X [] x0 x5) (fun w1 => if ¬ w1 = x4 then cf_364_25 N X rc x0 x3 x4 x5 t else cf_364_22 N X x5 t)) else none
theorem cr_364_13 {X : Nat → Option zz_C} {s : mS} {N : Nat} {d : Nat} (hd : 0 ≤ d) {rc : Nat → Nat → Int32 → Int32 → Int32 → cS → kO} (hrc0 : ∀ {Q : zz_O → zz_H → Prop} {x0 : Nat} {x3 : Int32} {x4 : Int32} {x5 : Int32} {h : zz_H} {t t' : cS} {o : kY}, kR h t s → rc 0 x0 x3 x4 x5 t = some (t', o) → (∀ h', kR h' t' s → kE o Q h') → zz_J zp_P zt_tf zt_fd X d zm_364 7 [(0, .ref x0), (3, .int x3), (4, .int x4), (5, .int x5)] [] h Q) {Q : zz_O → zz_H → Prop} {x0 : Nat} {x3 : Int32} {x4 : Int32} {x5 : Int32} {h : zz_H} {t t' : cS} {o : kY} (hR : kR h t s) (hf : cf_364_13 N X rc x0 x3 x4 x5 t = some (t', o)) (k : (∀ h', kR h' t' s → kE o Q h')) : zz_J zp_P zt_tf zt_fd X d zm_364 13 [(0, .ref x0), (3, .int x3), (4, .int x4), (5, .int x5)] [] h Q := by
  unfold cf_364_13 at hf
  obtain ⟨e0, hf⟩ := ko_if hf
  obtain ⟨w1, e1, hf⟩ := co_b_ok hf
  refine cb_364_13 hR e0 e1 (fun c {h} hR => ?_) (fun c {h} hR => ?_)
  · rw [if_pos c] at hf
    exact cr_364_25 hd hrc0 hR hf k
  · rw [if_neg c] at hf
    exact cr_364_22 hd hR hf k
def cf_364_7 (N : Nat) (X : Nat → Option zz_C) (rc : Nat → Nat → Int32 → Int32 → Int32 → cS → kO) (x0 : Nat) (x3 : Int32) (x4 : Int32) (x5 : Int32) (t : cS) : kO := if x3 ≤ x5 then cf_364_31 N X  t else cf_364_13 N X rc x0 x3 x4 x5 t
theorem cr_364_7 {X : Nat → Option zz_C} {s : mS} {N : Nat} {d : Nat} (hd : 0 ≤ d) {rc : Nat → Nat → Int32 → Int32 → Int32 → cS → kO} (hrc0 : ∀ {Q : zz_O → zz_H → Prop} {x0 : Nat} {x3 : Int32} {x4 : Int32} {x5 : Int32} {h : zz_H} {t t' : cS} {o : kY}, kR h t s → rc 0 x0 x3 x4 x5 t = some (t', o) → (∀ h', kR h' t' s → kE o Q h') → zz_J zp_P zt_tf zt_fd X d zm_364 7 [(0, .ref x0), (3, .int x3), (4, .int x4), (5, .int x5)] [] h Q) {Q : zz_O → zz_H → Prop} {x0 : Nat} {x3 : Int32} {x4 : Int32} {x5 : Int32} {h : zz_H} {t t' : cS} {o : kY} (hR : kR h t s) (hf : cf_364_7 N X rc x0 x3 x4 x5 t = some (t', o)) (k : (∀ h', kR h' t' s → kE o Q h')) : zz_J zp_P zt_tf zt_fd X d zm_364 7 [(0, .ref x0), (3, .int x3), (4, .int x4), (5, .int x5)] [] h Q := by
  unfold cf_364_7 at hf
  refine cb_364_7 hR  (fun c {h} hR => ?_) (fun c {h} hR => ?_)
  · rw [if_pos c] at hf
    exact cr_364_31 hd hR hf k
  · rw [if_neg c] at hf
    exact cr_364_13 hd hrc0 hR hf k
def cf_364_L2 (N : Nat) (X : Nat → Option zz_C) : Nat → Nat → Nat → Int32 → Int32 → Int32 → cS → kO
  | 0, _, _, _, _, _, _ => none
  | n + 1, l, x0, x3, x4, x5, t => if l = 0 then cf_364_7 N X (cf_364_L2 N X n) x0 x3 x4 x5 t else none
theorem cr_364_L2 {X : Nat → Option zz_C} {s : mS} {N : Nat} {d : Nat} (hd : 0 ≤ d) : ∀ n : Nat, (∀ {Q : zz_O → zz_H → Prop} {x0 : Nat} {x3 : Int32} {x4 : Int32} {x5 : Int32} {h : zz_H} {t t' : cS} {o : kY}, kR h t s → cf_364_L2 N X n 0 x0 x3 x4 x5 t = some (t', o) → (∀ h', kR h' t' s → kE o Q h') → zz_J zp_P zt_tf zt_fd X d zm_364 7 [(0, .ref x0), (3, .int x3), (4, .int x4), (5, .int x5)] [] h Q) := by
  intro n
  induction n with
  | zero => exact (fun _ hf _ => by cases hf)
  | succ n ih =>
    have h0 := @ih
    intro Q _ _ _ _ h t t' o hR hf k
    unfold cf_364_L2 at hf
    rw [if_pos rfl] at hf
    exact cr_364_7 hd h0 hR hf k
def cf_364_0 (N : Nat) (X : Nat → Option zz_C) (x0 : Nat) (x1 : Int32) (x2 : Int32) (x3 : Int32) (t : cS) : kO := cf_364_L2 N X N 0 x0 x3 (Int8.toInt32 (Int32.toInt8 x1)) x2 t
theorem cr_364_0 {X : Nat → Option zz_C} {s : mS} {N : Nat} {d : Nat} (hd : 0 ≤ d) {Q : zz_O → zz_H → Prop} {x0 : Nat} {x1 : Int32} {x2 : Int32} {x3 : Int32} {h : zz_H} {t t' : cS} {o : kY} (hR : kR h t s) (hf : cf_364_0 N X x0 x1 x2 x3 t = some (t', o)) (k : (∀ h', kR h' t' s → kE o Q h')) : zz_J zp_P zt_tf zt_fd X d zm_364 0 [(0, .ref x0), (1, .int x1), (2, .int x2), (3, .int x3)] [] h Q := by
  unfold cf_364_0 at hf
  exact cb_364_0 hR  (fun hR => cr_364_L2 hd N hR hf k)
/-- indexOfChar -/
def cf_364 (N : Nat) (X : Nat → Option zz_C) (x0 : Nat) (x1 : Int32) (x2 : Int32) (x3 : Int32) (t : cS) : kO := cf_364_0 N X x0 x1 x2 x3 t
theorem cr_364 {X : Nat → Option zz_C} {s : mS} {N : Nat} {d : Nat} (hd : 0 ≤ d) {Q : zz_O → zz_H → Prop} {x0 : Nat} {x1 : Int32} {x2 : Int32} {x3 : Int32} {h : zz_H} {t t' : cS} {o : kY} (hR : kR h t s) (hf : cf_364 N X x0 x1 x2 x3 t = some (t', o)) (k : ∀ h', kR h' t' s → kE o Q h') : zz_J zp_P zt_tf zt_fd X d zm_364 0 [(0, .ref x0), (1, .int x1), (2, .int x2), (3, .int x3)] [] h Q := by
  unfold cf_364 at hf
  exact zz_J.weak (cr_364_0 hd hR hf k) rfl ⟨rfl, rfl, rfl, rfl, trivial⟩
/-! yJ1_indexOf_4cfef ([BIII)I -/
theorem cb_363_0 {X : Nat → Option zz_C} {h : zz_H} {t : cS} {s : mS} {d : Nat} {Q : zz_O → zz_H → Prop} {x0 : Nat} {x1 : Int32} {x2 : Int32} {x3 : Int32} (hR : kR h t s) (k : ∀ {h : zz_H}, kR h t s → zz_J zp_P zt_tf zt_fd X d zm_362 0 [(0, .int x1)] [] h (zz_after 0 Q (fun v h' => zz_J zp_P zt_tf zt_fd X (d + 1) zm_363 4 [(0, .ref x0), (1, .int x1), (2, .int x2), (3, .int x3)] (v.toList ++ []) h' Q))) : zz_J zp_P zt_tf zt_fd X (d + 1) zm_363 0 [(0, .ref x0), (1, .int x1), (2, .int x2), (3, .int x3)] [] h Q := by
  refine zz_J.n 1 rfl rfl rfl ?_
  refine zz_J.cl (M' := zm_362) 4 rfl rfl (by decide) rfl rfl ⟨rfl, Nat.le_of_ble_eq_true rfl⟩ rfl ?_
  refine zz_J.mono (k hR) ?_
  intro o h' hE
  cases o with
  | inl v => exact zz_J.weak hE rfl ⟨rfl, rfl, rfl, rfl, trivial⟩
  | inr q => exact hE
theorem cb_363_4 {X : Nat → Option zz_C} {h : zz_H} {t : cS} {s : mS} {d : Nat} {Q : zz_O → zz_H → Prop} {x0 : Nat} {x1 : Int32} {x2 : Int32} {x3 : Int32} {y0 : Int32} (hR : kR h t s) (k1 : ¬ y0 = 0 → (∀ {h : zz_H}, kR h t s → zz_J zp_P zt_tf zt_fd X d zm_363 9 [(0, .ref x0), (1, .int x1), (2, .int x2), (3, .int x3)] [] h Q)) (k2 : ¬ ¬ y0 = 0 → (∀ {h : zz_H}, kR h t s → zz_J zp_P zt_tf zt_fd X d zm_363 7 [] [] h Q)) : zz_J zp_P zt_tf zt_fd X d zm_363 4 [(0, .ref x0), (1, .int x1), (2, .int x2), (3, .int x3)] [.int y0] h Q := by
  refine zz_J.b1 9 7 (A := ¬ y0 = 0) rfl (zz_cond_ne _ _) (by decide) rfl rfl (fun c => ?_) (fun c => ?_)
  · exact zz_J.weak (k1 c hR) rfl ⟨rfl, rfl, rfl, rfl, trivial⟩
  · exact zz_J.weak (k2 c hR) rfl trivial
theorem cb_363_7 {X : Nat → Option zz_C} {h : zz_H} {t : cS} {s : mS} {d : Nat} {Q : zz_O → zz_H → Prop}  (hR : kR h t s) (k : ∀ {h : zz_H}, kR h t s → Q (.inl (some (.int (-1)))) h) : zz_J zp_P zt_tf zt_fd X d zm_363 7 [] [] h Q := by
  refine zz_J.c 8 (.int (-1)) rfl rfl rfl rfl ?_
  refine zz_J.ret rfl rfl rfl ?_
  exact k hR
theorem cb_363_9 {X : Nat → Option zz_C} {h : zz_H} {t : cS} {s : mS} {d : Nat} {Q : zz_O → zz_H → Prop} {x0 : Nat} {x1 : Int32} {x2 : Int32} {x3 : Int32} (hR : kR h t s) (e0 : ¬ x0 < zz_out) {w1 : Int32} (e1 : hlen X [] x0 = some w1) (k1 : (if (x2 : Int32) < 0 then 0 else x2) < (if w1 < (x3 : Int32) then w1 else x3) → (∀ {h : zz_H}, kR h t s → zz_J zp_P zt_tf zt_fd X (d + 1) zm_363 29 [(0, .ref x0), (1, .int x1), (2, .int (if (x2 : Int32) < 0 then 0 else x2)), (3, .int (if w1 < (x3 : Int32) then w1 else x3))] [] h Q)) (k2 : ¬ (if (x2 : Int32) < 0 then 0 else x2) < (if w1 < (x3 : Int32) then w1 else x3) → (∀ {h : zz_H}, kR h t s → zz_J zp_P zt_tf zt_fd X (d + 1) zm_363 27 [] [] h Q)) : zz_J zp_P zt_tf zt_fd X (d + 1) zm_363 9 [(0, .ref x0), (1, .int x1), (2, .int x2), (3, .int x3)] [] h Q := by
  refine zz_J.n 10 rfl rfl rfl ?_
  refine zz_J.c 11 (.int 0) rfl rfl rfl rfl ?_
  refine zz_J.spec 14 rfl rfl (by decide) rfl rfl rfl ?_
  refine zz_J.n 15 rfl rfl rfl ?_
  refine zz_J.n 16 rfl rfl rfl ?_
  refine zz_J.n 17 rfl rfl rfl ?_
  refine zz_J.ln 18 rfl ((hx_ln e0).trans e1) rfl ?_
  refine zz_J.spec 21 rfl rfl (by decide) rfl rfl rfl ?_
  refine zz_J.n 22 rfl rfl rfl ?_
  refine zz_J.n 23 rfl rfl rfl ?_
  refine zz_J.n 24 rfl rfl rfl ?_
  refine zz_J.b2 29 27 (A := (if (x2 : Int32) < 0 then 0 else x2) < (if w1 < (x3 : Int32) then w1 else x3)) rfl rfl (by decide) rfl rfl (fun c => ?_) (fun c => ?_)
  · exact zz_J.weak (k1 c hR) rfl ⟨rfl, rfl, rfl, rfl, trivial⟩
  · exact zz_J.weak (k2 c hR) rfl trivial
theorem cb_363_27 {X : Nat → Option zz_C} {h : zz_H} {t : cS} {s : mS} {d : Nat} {Q : zz_O → zz_H → Prop}  (hR : kR h t s) (k : ∀ {h : zz_H}, kR h t s → Q (.inl (some (.int (-1)))) h) : zz_J zp_P zt_tf zt_fd X d zm_363 27 [] [] h Q := by
  refine zz_J.c 28 (.int (-1)) rfl rfl rfl rfl ?_
  refine zz_J.ret rfl rfl rfl ?_
  exact k hR
theorem cb_363_29 {X : Nat → Option zz_C} {h : zz_H} {t : cS} {s : mS} {d : Nat} {Q : zz_O → zz_H → Prop} {x0 : Nat} {x1 : Int32} {x2 : Int32} {x3 : Int32} (hR : kR h t s) (k : ∀ {h : zz_H}, kR h t s → zz_J zp_P zt_tf zt_fd X d zm_364 0 [(0, .ref x0), (1, .int x1), (2, .int x2), (3, .int x3)] [] h (zz_after 0 Q (fun v h' => zz_J zp_P zt_tf zt_fd X (d + 1) zm_363 36 [] (v.toList ++ []) h' Q))) : zz_J zp_P zt_tf zt_fd X (d + 1) zm_363 29 [(0, .ref x0), (1, .int x1), (2, .int x2), (3, .int x3)] [] h Q := by
  refine zz_J.n 30 rfl rfl rfl ?_
  refine zz_J.n 31 rfl rfl rfl ?_
  refine zz_J.n 32 rfl rfl rfl ?_
  refine zz_J.n 33 rfl rfl rfl ?_
  refine zz_J.cl (M' := zm_364) 36 rfl rfl (by decide) rfl rfl ⟨rfl, Nat.le_of_ble_eq_true rfl⟩ rfl ?_
  refine zz_J.mono (k hR) ?_
  intro o h' hE
  cases o with
  | inl v => exact zz_J.weak hE rfl trivial
  | inr q => exact hE
theorem cb_363_36 {X : Nat → Option zz_C} {h : zz_H} {t : cS} {s : mS} {d : Nat} {Q : zz_O → zz_H → Prop} {y0 : Int32} (hR : kR h t s) (k : ∀ {h : zz_H}, kR h t s → Q (.inl (some (.int y0))) h) : zz_J zp_P zt_tf zt_fd X d zm_363 36 [] [.int y0] h Q := by
  refine zz_J.ret rfl rfl rfl ?_
  exact k hR
def cf_363_36 (N : Nat) (X : Nat → Option zz_C) (y0 : Int32) (t : cS) : kO := some (t, .inl (some (.int y0)))
theorem cr_363_36 {X : Nat → Option zz_C} {s : mS} {N : Nat} {d : Nat} (hd : 1 ≤ d) {Q : zz_O → zz_H → Prop} {y0 : Int32} {h : zz_H} {t t' : cS} {o : kY} (hR : kR h t s) (hf : cf_363_36 N X y0 t = some (t', o)) (k : (∀ h', kR h' t' s → kE o Q h')) : zz_J zp_P zt_tf zt_fd X d zm_363 36 [] [.int y0] h Q := by
  unfold cf_363_36 at hf
  cases hf
  exact cb_363_36 hR  (fun {h} hR => k h hR)
def cf_363_29 (N : Nat) (X : Nat → Option zz_C) (x0 : Nat) (x1 : Int32) (x2 : Int32) (x3 : Int32) (t : cS) : kO := ko_call 0 (cf_364 N X x0 x1 x2 x3 t) (fun g1 v1 => co_i v1 (fun y => cf_363_36 N X y g1))
theorem cr_363_29 {X : Nat → Option zz_C} {s : mS} {N : Nat} {d : Nat} (hd : 1 ≤ d) {Q : zz_O → zz_H → Prop} {x0 : Nat} {x1 : Int32} {x2 : Int32} {x3 : Int32} {h : zz_H} {t t' : cS} {o : kY} (hR : kR h t s) (hf : cf_363_29 N X x0 x1 x2 x3 t = some (t', o)) (k : (∀ h', kR h' t' s → kE o Q h')) : zz_J zp_P zt_tf zt_fd X d zm_363 29 [(0, .ref x0), (1, .int x1), (2, .int x2), (3, .int x3)] [] h Q := by
  unfold cf_363_29 at hf
  obtain ⟨d', rfl⟩ : ∃ d', d = d' + 1 := ⟨d - 1, by omega⟩
  refine cb_363_29 hR  (fun {h} hR => ?_)
  rcases ko_call_ok hf with ⟨g1, v1, er, hf⟩ | ⟨g1, er, hq⟩
  · obtain ⟨y, hv, hf2⟩ := co_i_ok hf
    clear hf
    have hf := hf2
    clear hf2
    subst hv
    refine cr_364 (by omega) hR er (fun h hR => ?_)
    exact cr_363_36 hd hR hf k
  · refine cr_364 (by omega) hR er (fun h hR => ?_)
    exact ko_thrown hq hR k
def cf_363_27 (N : Nat) (X : Nat → Option zz_C)  (t : cS) : kO := some (t, .inl (some (.int (-1))))
theorem cr_363_27 {X : Nat → Option zz_C} {s : mS} {N : Nat} {d : Nat} (hd : 1 ≤ d) {Q : zz_O → zz_H → Prop}  {h : zz_H} {t t' : cS} {o : kY} (hR : kR h t s) (hf : cf_363_27 N X  t = some (t', o)) (k : (∀ h', kR h' t' s → kE o Q h')) : zz_J zp_P zt_tf zt_fd X d zm_363 27 [] [] h Q := by
  unfold cf_363_27 at hf
  cases hf
  exact cb_363_27 hR  (fun {h} hR => k h hR)
def cf_363_9 (N : Nat) (X : Nat → Option zz_C) (x0 : Nat) (x1 : Int32) (x2 : Int32) (x3 : Int32) (t : cS) : kO := if ¬ x0 < zz_out then (co_b (hlen X [] x0) (fun w1 => if (if (x2 : Int32) < 0 then 0 else x2) < (if w1 < (x3 : Int32) then w1 else x3) then cf_363_29 N X x0 x1 (if (x2 : Int32) < 0 then 0 else x2) (if w1 < (x3 : Int32) then w1 else x3) t else cf_363_27 N X  t)) else none
theorem cr_363_9 {X : Nat → Option zz_C} {s : mS} {N : Nat} {d : Nat} (hd : 1 ≤ d) {Q : zz_O → zz_H → Prop} {x0 : Nat} {x1 : Int32} {x2 : Int32} {x3 : Int32} {h : zz_H} {t t' : cS} {o : kY} (hR : kR h t s) (hf : cf_363_9 N X x0 x1 x2 x3 t = some (t', o)) (k : (∀ h', kR h' t' s → kE o Q h')) : zz_J zp_P zt_tf zt_fd X d zm_363 9 [(0, .ref x0), (1, .int x1), (2, .int x2), (3, .int x3)] [] h Q := by
  unfold cf_363_9 at hf
  obtain ⟨e0, hf⟩ := ko_if hf
  obtain ⟨w1, e1, hf⟩ := co_b_ok hf
  obtain ⟨d', rfl⟩ : ∃ d', d = d' + 1 := ⟨d - 1, by omega⟩
  refine cb_363_9 hR e0 e1 (fun c {h} hR => ?_) (fun c {h} hR => ?_)
  · rw [if_pos c] at hf
    exact cr_363_29 hd hR hf k
  · rw [if_neg c] at hf
    exact cr_363_27 hd hR hf k
def cf_363_7 (N : Nat) (X : Nat → Option zz_C)  (t : cS) : kO := some (t, .inl (some (.int (-1))))
theorem cr_363_7 {X : Nat → Option zz_C} {s : mS} {N : Nat} {d : Nat} (hd : 1 ≤ d) {Q : zz_O → zz_H → Prop}  {h : zz_H} {t t' : cS} {o : kY} (hR : kR h t s) (hf : cf_363_7 N X  t = some (t', o)) (k : (∀ h', kR h' t' s → kE o Q h')) : zz_J zp_P zt_tf zt_fd X d zm_363 7 [] [] h Q := by
  unfold cf_363_7 at hf
  cases hf
  exact cb_363_7 hR  (fun {h} hR => k h hR)
def cf_363_4 (N : Nat) (X : Nat → Option zz_C) (x0 : Nat) (x1 : Int32) (x2 : Int32) (x3 : Int32) (y0 : Int32) (t : cS) : kO := if ¬ y0 = 0 then cf_363_9 N X x0 x1 x2 x3 t else cf_363_7 N X  t
theorem cr_363_4 {X : Nat → Option zz_C} {s : mS} {N : Nat} {d : Nat} (hd : 1 ≤ d) {Q : zz_O → zz_H → Prop} {x0 : Nat} {x1 : Int32} {x2 : Int32} {x3 : Int32} {y0 : Int32} {h : zz_H} {t t' : cS} {o : kY} (hR : kR h t s) (hf : cf_363_4 N X x0 x1 x2 x3 y0 t = some (t', o)) (k : (∀ h', kR h' t' s → kE o Q h')) : zz_J zp_P zt_tf zt_fd X d zm_363 4 [(0, .ref x0), (1, .int x1), (2, .int x2), (3, .int x3)] [.int y0] h Q := by
  unfold cf_363_4 at hf
  refine cb_363_4 hR  (fun c {h} hR => ?_) (fun c {h} hR => ?_)
  · rw [if_pos c] at hf
    exact cr_363_9 hd hR hf k
  · rw [if_neg c] at hf
    exact cr_363_7 hd hR hf k
def cf_363_0 (N : Nat) (X : Nat → Option zz_C) (x0 : Nat) (x1 : Int32) (x2 : Int32) (x3 : Int32) (t : cS) : kO := ko_call 0 (cf_362 N X x1 t) (fun g1 v1 => co_i v1 (fun y => cf_363_4 N X x0 x1 x2 x3 y g1))
theorem cr_363_0 {X : Nat → Option zz_C} {s : mS} {N : Nat} {d : Nat} (hd : 1 ≤ d) {Q : zz_O → zz_H → Prop} {x0 : Nat} {x1 : Int32} {x2 : Int32} {x3 : Int32} {h : zz_H} {t t' : cS} {o : kY} (hR : kR h t s) (hf : cf_363_0 N X x0 x1 x2 x3 t = some (t', o)) (k : (∀ h', kR h' t' s → kE o Q h')) : zz_J zp_P zt_tf zt_fd X d zm_363 0 [(0, .ref x0), (1, .int x1), (2, .int x2), (3, .int x3)] [] h Q := by
  unfold cf_363_0 at hf
  obtain ⟨d', rfl⟩ : ∃ d', d = d' + 1 := ⟨d - 1, by omega⟩
  refine cb_363_0 hR  (fun {h} hR => ?_)
  rcases ko_call_ok hf with ⟨g1, v1, er, hf⟩ | ⟨g1, er, hq⟩
  · obtain ⟨y, hv, hf2⟩ := co_i_ok hf
    clear hf
    have hf := hf2
    clear hf2
    subst hv
    refine cr_362 (by omega) hR er (fun h hR => ?_)
    exact cr_363_4 hd hR hf k
  · refine cr_362 (by omega) hR er (fun h hR => ?_)
    exact ko_thrown hq hR k
/-- indexOf -/
def cf_363 (N : Nat) (X : Nat → Option zz_C) (x0 : Nat) (x1 : Int32) (x2 : Int32) (x3 : Int32) (t : cS) : kO := cf_363_0 N X x0 x1 x2 x3 t
theorem cr_363 {X : Nat → Option zz_C} {s : mS} {N : Nat} {d : Nat} (hd : 1 ≤ d) {Q : zz_O → zz_H → Prop} {x0 : Nat} {x1 : Int32} {x2 : Int32} {x3 : Int32} {h : zz_H} {t t' : cS} {o : kY} (hR : kR h t s) (hf : cf_363 N X x0 x1 x2 x3 t = some (t', o)) (k : ∀ h', kR h' t' s → kE o Q h') : zz_J zp_P zt_tf zt_fd X d zm_363 0 [(0, .ref x0), (1, .int x1), (2, .int x2), (3, .int x3)] [] h Q := by
  unfold cf_363 at hf
  exact zz_J.weak (cr_363_0 hd hR hf k) rfl ⟨rfl, rfl, rfl, rfl, trivial⟩
/-! yJ0_indexOf_7cf53 (II)I -/
theorem cb_360_0 {X : Nat → Option zz_C} {h : zz_H} {t : cS} {s : mS} {d : Nat} {Q : zz_O → zz_H → Prop} {x0 : Nat} {x1 : Int32} {x2 : Int32} (hR : kR h t s) (e0 : ¬ x0 < zz_out) (e1 : hcl X [] x0 21 = true) (k : ∀ {h : zz_H}, kR h t s → zz_J zp_P zt_tf zt_fd X d zm_361 0 [(0, .ref x0)] [] h (zz_after 21 Q (fun v h' => zz_J zp_P zt_tf zt_fd X (d + 1) zm_360 4 [(0, .ref x0), (1, .int x1), (2, .int x2)] (v.toList ++ []) h' Q))) : zz_J zp_P zt_tf zt_fd X (d + 1) zm_360 0 [(0, .ref x0), (1, .int x1), (2, .int x2)] [] h Q := by
  refine zz_J.n 1 rfl rfl rfl ?_
  refine zz_J.cv 4 (as := []) rfl rfl ((hx_cl e0).trans e1) (by decide) (Nat.le_of_ble_eq_true rfl) (Nat.le_of_ble_eq_true rfl) rfl (Nat.le_of_ble_eq_true rfl) rfl ?_
  refine zz_J.mono (k hR) ?_
  intro o h' hE
  cases o with
  | inl v => exact zz_J.weak hE rfl ⟨rfl, rfl, rfl, trivial⟩
  | inr q => exact hE
theorem cb_360_4 {X : Nat → Option zz_C} {h : zz_H} {t : cS} {s : mS} {d : Nat} {Q : zz_O → zz_H → Prop} {x0 : Nat} {x1 : Int32} {x2 : Int32} {y0 : Int32} (hR : kR h t s) (k1 : y0 = 0 → (∀ {h : zz_H}, kR h t s → zz_J zp_P zt_tf zt_fd X d zm_360 23 [(0, .ref x0), (1, .int x1), (2, .int x2)] [] h Q)) (k2 : ¬ y0 = 0 → (∀ {h : zz_H}, kR h t s → zz_J zp_P zt_tf zt_fd X d zm_360 7 [(0, .ref x0), (1, .int x1), (2, .int x2)] [] h Q)) : zz_J zp_P zt_tf zt_fd X d zm_360 4 [(0, .ref x0), (1, .int x1), (2, .int x2)] [.int y0] h Q := by
  refine zz_J.b1 23 7 (A := y0 = 0) rfl rfl (by decide) rfl rfl (fun c => ?_) (fun c => ?_)
  · exact zz_J.weak (k1 c hR) rfl ⟨rfl, rfl, rfl, trivial⟩
  · exact zz_J.weak (k2 c hR) rfl ⟨rfl, rfl, rfl, trivial⟩
theorem cb_360_7 {X : Nat → Option zz_C} {h : zz_H} {t : cS} {s : mS} {d : Nat} {Q : zz_O → zz_H → Prop} {x0 : Nat} {x1 : Int32} {x2 : Int32} (hR : kR h t s) {w0 : Nat} (e0 : hgr X [] x0 21 0 = some w0) (e1 : ¬ x0 < zz_out) (e2 : hcl X [] x0 21 = true) (k : ∀ {h : zz_H}, kR h t s → zz_J zp_P zt_tf zt_fd X d zm_357 0 [(0, .ref x0)] [] h (zz_after 21 Q (fun v h' => zz_J zp_P zt_tf zt_fd X (d + 1) zm_360 17 [] (v.toList ++ [.int x2, .int x1, .ref w0]) h' Q))) : zz_J zp_P zt_tf zt_fd X (d + 1) zm_360 7 [(0, .ref x0), (1, .int x1), (2, .int x2)] [] h Q := by
  refine zz_J.n 8 rfl rfl rfl ?_
  refine zz_J.gr 11 rfl e0 rfl ?_
  refine zz_J.n 12 rfl rfl rfl ?_
  refine zz_J.n 13 rfl rfl rfl ?_
  refine zz_J.n 14 rfl rfl rfl ?_
  refine zz_J.cv 17 (as := [.int x2, .int x1, .ref w0]) rfl rfl ((hx_cl e1).trans e2) (by decide) (Nat.le_of_ble_eq_true rfl) (Nat.le_of_ble_eq_true rfl) rfl (Nat.le_of_ble_eq_true rfl) rfl ?_
  refine zz_J.mono (k hR) ?_
  intro o h' hE
  cases o with
  | inl v => exact zz_J.weak hE rfl trivial
  | inr q => exact hE
theorem cb_360_17 {X : Nat → Option zz_C} {h : zz_H} {t : cS} {s : mS} {d : Nat} {Q : zz_O → zz_H → Prop} {y0 : Nat} {y1 : Int32} {y2 : Int32} {y3 : Int32} (hR : kR h t s) (k : ∀ {h : zz_H}, kR h t s → zz_J zp_P zt_tf zt_fd X d zm_363 0 [(0, .ref y0), (1, .int y1), (2, .int y2), (3, .int y3)] [] h (zz_after 0 Q (fun v h' => zz_J zp_P zt_tf zt_fd X (d + 1) zm_360 20 [] (v.toList ++ []) h' Q))) : zz_J zp_P zt_tf zt_fd X (d + 1) zm_360 17 [] [.int y3, .int y2, .int y1, .ref y0] h Q := by
  refine zz_J.cl (M' := zm_363) 20 rfl rfl (by decide) rfl rfl ⟨rfl, Nat.le_of_ble_eq_true rfl⟩ rfl ?_
  refine zz_J.mono (k hR) ?_
  intro o h' hE
  cases o with
  | inl v => exact zz_J.weak hE rfl trivial
  | inr q => exact hE
theorem cb_360_20 {X : Nat → Option zz_C} {h : zz_H} {t : cS} {s : mS} {d : Nat} {Q : zz_O → zz_H → Prop} {y0 : Int32} (hR : kR h t s) (k : ∀ {h : zz_H}, kR h t s → zz_J zp_P zt_tf zt_fd X d zm_360 36 [] [.int y0] h Q) : zz_J zp_P zt_tf zt_fd X d zm_360 20 [] [.int y0] h Q := by
  refine zz_J.n 36 rfl rfl rfl ?_
  exact zz_J.weak (k hR) rfl trivial
theorem cb_360_36 {X : Nat → Option zz_C} {h : zz_H} {t : cS} {s : mS} {d : Nat} {Q : zz_O → zz_H → Prop} {y0 : Int32} (hR : kR h t s) (k : ∀ {h : zz_H}, kR h t s → Q (.inl (some (.int y0))) h) : zz_J zp_P zt_tf zt_fd X d zm_360 36 [] [.int y0] h Q := by
  refine zz_J.ret rfl rfl rfl ?_
  exact k hR
def cf_360_36 (N : Nat) (X : Nat → Option zz_C) (y0 : Int32) (t : cS) : kO := some (t, .inl (some (.int y0)))
theorem cr_360_36 {X : Nat → Option zz_C} {s : mS} {N : Nat} {d : Nat} (hd : 2 ≤ d) {Q : zz_O → zz_H → Prop} {y0 : Int32} {h : zz_H} {t t' : cS} {o : kY} (hR : kR h t s) (hf : cf_360_36 N X y0 t = some (t', o)) (k : (∀ h', kR h' t' s → kE o Q h')) : zz_J zp_P zt_tf zt_fd X d zm_360 36 [] [.int y0] h Q := by
  unfold cf_360_36 at hf
  cases hf
  exact cb_360_36 hR  (fun {h} hR => k h hR)
def cf_360_20 (N : Nat) (X : Nat → Option zz_C) (y0 : Int32) (t : cS) : kO := cf_360_36 N X y0 t
theorem cr_360_20 {X : Nat → Option zz_C} {s : mS} {N : Nat} {d : Nat} (hd : 2 ≤ d) {Q : zz_O → zz_H → Prop} {y0 : Int32} {h : zz_H} {t t' : cS} {o : kY} (hR : kR h t s) (hf : cf_360_20 N X y0 t = some (t', o)) (k : (∀ h', kR h' t' s → kE o Q h')) : zz_J zp_P zt_tf zt_fd X d zm_360 20 [] [.int y0] h Q := by
  unfold cf_360_20 at hf
  exact cb_360_20 hR  (fun hR => cr_360_36 hd hR hf k)
def cf_360_17 (N : Nat) (X : Nat → Option zz_C) (y0 : Nat) (y1 : Int32) (y2 : Int32) (y3 : Int32) (t : cS) : kO := ko_call 0 (cf_363 N X y0 y1 y2 y3 t) (fun g1 v1 => co_i v1 (fun y => cf_360_20 N X y g1))
theorem cr_360_17 {X : Nat → Option zz_C} {s : mS} {N : Nat} {d : Nat} (hd : 2 ≤ d) {Q : zz_O → zz_H → Prop} {y0 : Nat} {y1 : Int32} {y2 : Int32} {y3 : Int32} {h : zz_H} {t t' : cS} {o : kY} (hR : kR h t s) (hf : cf_360_17 N X y0 y1 y2 y3 t = some (t', o)) (k : (∀ h', kR h' t' s → kE o Q h')) : zz_J zp_P zt_tf zt_fd X d zm_360 17 [] [.int y3, .int y2, .int y1, .ref y0] h Q := by
  unfold cf_360_17 at hf
  obtain ⟨d', rfl⟩ : ∃ d', d = d' + 1 := ⟨d - 1, by omega⟩
  refine cb_360_17 hR  (fun {h} hR => ?_)
  rcases ko_call_ok hf with ⟨g1, v1, er, hf⟩ | ⟨g1, er, hq⟩
  · obtain ⟨y, hv, hf2⟩ := co_i_ok hf
    clear hf
    have hf := hf2
    clear hf2
    subst hv
    refine cr_363 (by omega) hR er (fun h hR => ?_)
    exact cr_360_20 hd hR hf k
  · refine cr_363 (by omega) hR er (fun h hR => ?_)
    exact ko_thrown hq hR k
def cf_360_7 (N : Nat) (X : Nat → Option zz_C) (x0 : Nat) (x1 : Int32) (x2 : Int32) (t : cS) : kO := co_b (hgr X [] x0 21 0) (fun w0 => if ¬ x0 < zz_out then (if hcl X [] x0 21 = true then (ko_call 21 (cf_357 N X x0 t) (fun g1 v1 => co_i v1 (fun y => cf_360_17 N X w0 x1 x2 y g1))) else none) else none)
theorem cr_360_7 {X : Nat → Option zz_C} {s : mS} {N : Nat} {d : Nat} (hd : 2 ≤ d) {Q : zz_O → zz_H → Prop} {x0 : Nat} {x1 : Int32} {x2 : Int32} {h : zz_H} {t t' : cS} {o : kY} (hR : kR h t s) (hf : cf_360_7 N X x0 x1 x2 t = some (t', o)) (k : (∀ h', kR h' t' s → kE o Q h')) : zz_J zp_P zt_tf zt_fd X d zm_360 7 [(0, .ref x0), (1, .int x1), (2, .int x2)] [] h Q := by
  unfold cf_360_7 at hf
  obtain ⟨w0, e0, hf⟩ := co_b_ok hf
  obtain ⟨e1, hf⟩ := ko_if hf
  obtain ⟨e2, hf⟩ := ko_if hf
  obtain ⟨d', rfl⟩ : ∃ d', d = d' + 1 := ⟨d - 1, by omega⟩
  refine cb_360_7 hR e0 e1 e2 (fun {h} hR => ?_)
  rcases ko_call_ok hf with ⟨g1, v1, er, hf⟩ | ⟨g1, er, hq⟩
  · obtain ⟨y, hv, hf2⟩ := co_i_ok hf
    clear hf
    have hf := hf2
    clear hf2
    subst hv
    refine cr_357 (by omega) hR er (fun h hR => ?_)
    exact cr_360_17 hd hR hf k
  · refine cr_357 (by omega) hR er (fun h hR => ?_)
    exact ko_thrown hq hR k
def cf_360_4 (N : Nat) (X : Nat → Option zz_C) (x0 : Nat) (x1 : Int32) (x2 : Int32) (y0 : Int32) (t : cS) : kO := if y0 = 0 then none else cf_360_7 N X x0 x1 x2 t
theorem cr_360_4 {X : Nat → Option zz_C} {s : mS} {N : Nat} {d : Nat} (hd : 2 ≤ d) {Q : zz_O → zz_H → Prop} {x0 : Nat} {x1 : Int32} {x2 : Int32} {y0 : Int32} {h : zz_H} {t t' : cS} {o : kY} (hR : kR h t s) (hf : cf_360_4 N X x0 x1 x2 y0 t = some (t', o)) (k : (∀ h', kR h' t' s → kE o Q h')) : zz_J zp_P zt_tf zt_fd X d zm_360 4 [(0, .ref x0), (1, .int x1), (2, .int x2)] [.int y0] h Q := by
  unfold cf_360_4 at hf
  refine cb_360_4 hR  (fun c {h} hR => ?_) (fun c {h} hR => ?_)
  · rw [if_pos c] at hf
    exact (by cases hf)
  · rw [if_neg c] at hf
    exact cr_360_7 hd hR hf k
def cf_360_0 (N : Nat) (X : Nat → Option zz_C) (x0 : Nat) (x1 : Int32) (x2 : Int32) (t : cS) : kO := if ¬ x0 < zz_out then (if hcl X [] x0 21 = true then (ko_call 21 (cf_361 N X x0 t) (fun g1 v1 => co_i v1 (fun y => cf_360_4 N X x0 x1 x2 y g1))) else none) else none
theorem cr_360_0 {X : Nat → Option zz_C} {s : mS} {N : Nat} {d : Nat} (hd : 2 ≤ d) {Q : zz_O → zz_H → Prop} {x0 : Nat} {x1 : Int32} {x2 : Int32} {h : zz_H} {t t' : cS} {o : kY} (hR : kR h t s) (hf : cf_360_0 N X x0 x1 x2 t = some (t', o)) (k : (∀ h', kR h' t' s → kE o Q h')) : zz_J zp_P zt_tf zt_fd X d zm_360 0 [(0, .ref x0), (1, .int x1), (2, .int x2)] [] h Q := by
  unfold cf_360_0 at hf
  obtain ⟨e0, hf⟩ := ko_if hf
  obtain ⟨e1, hf⟩ := ko_if hf
  obtain ⟨d', rfl⟩ : ∃ d', d = d' + 1 := ⟨d - 1, by omega⟩
  refine cb_360_0 hR e0 e1 (fun {h} hR => ?_)
  rcases ko_call_ok hf with ⟨g1, v1, er, hf⟩ | ⟨g1, er, hq⟩
  · obtain ⟨y, hv, hf2⟩ := co_i_ok hf
    clear hf
    have hf := hf2
    clear hf2
    subst hv
    refine cr_361 (by omega) hR er (fun h hR => ?_)
    exact cr_360_4 hd hR hf k
  · refine cr_361 (by omega) hR er (fun h hR => ?_)
    exact ko_thrown hq hR k
/-- indexOf -/
def cf_360 (N : Nat) (X : Nat → Option zz_C) (x0 : Nat) (x1 : Int32) (x2 : Int32) (t : cS) : kO := cf_360_0 N X x0 x1 x2 t
theorem cr_360 {X : Nat → Option zz_C} {s : mS} {N : Nat} {d : Nat} (hd : 2 ≤ d) {Q : zz_O → zz_H → Prop} {x0 : Nat} {x1 : Int32} {x2 : Int32} {h : zz_H} {t t' : cS} {o : kY} (hR : kR h t s) (hf : cf_360 N X x0 x1 x2 t = some (t', o)) (k : ∀ h', kR h' t' s → kE o Q h') : zz_J zp_P zt_tf zt_fd X d zm_360 0 [(0, .ref x0), (1, .int x1), (2, .int x2)] [] h Q := by
  unfold cf_360 at hf
  exact zz_J.weak (cr_360_0 hd hR hf k) rfl ⟨rfl, rfl, rfl, trivial⟩
/-! yJ0_indexOf_0f7a4 (I)I -/
theorem cb_359_0 {X : Nat → Option zz_C} {h : zz_H} {t : cS} {s : mS} {d : Nat} {Q : zz_O → zz_H → Prop} {x0 : Nat} {x1 : Int32} (hR : kR h t s) (e0 : ¬ x0 < zz_out) (e1 : hcl X [] x0 21 = true) (k : ∀ {h : zz_H}, kR h t s → zz_J zp_P zt_tf zt_fd X d zm_360 0 [(0, .ref x0), (1, .int x1), (2, .int 0)] [] h (zz_after 21 Q (fun v h' => zz_J zp_P zt_tf zt_fd X (d + 1) zm_359 6 [] (v.toList ++ []) h' Q))) : zz_J zp_P zt_tf zt_fd X (d + 1) zm_359 0 [(0, .ref x0), (1, .int x1)] [] h Q := by
  refine zz_J.n 1 rfl rfl rfl ?_
  refine zz_J.n 2 rfl rfl rfl ?_
  refine zz_J.c 3 (.int 0) rfl rfl rfl rfl ?_
  refine zz_J.cv 6 (as := []) rfl rfl ((hx_cl e0).trans e1) (by decide) (Nat.le_of_ble_eq_true rfl) (Nat.le_of_ble_eq_true rfl) rfl (Nat.le_of_ble_eq_true rfl) rfl ?_
  refine zz_J.mono (k hR) ?_
  intro o h' hE
  cases o with
  | inl v => exact zz_J.weak hE rfl trivial
  | inr q => exact hE
theorem cb_359_6 {X : Nat → Option zz_C} {h : zz_H} {t : cS} {s : mS} {d : Nat} {Q : zz_O → zz_H → Prop} {y0 : Int32} (hR : kR h t s) (k : ∀ {h : zz_H}, kR h t s → Q (.inl (some (.int y0))) h) : zz_J zp_P zt_tf zt_fd X d zm_359 6 [] [.int y0] h Q := by
  refine zz_J.ret rfl rfl rfl ?_
  exact k hR
def cf_359_6 (N : Nat) (X : Nat → Option zz_C) (y0 : Int32) (t : cS) : kO := some (t, .inl (some (.int y0)))
theorem cr_359_6 {X : Nat → Option zz_C} {s : mS} {N : Nat} {d : Nat} (hd : 3 ≤ d) {Q : zz_O → zz_H → Prop} {y0 : Int32} {h : zz_H} {t t' : cS} {o : kY} (hR : kR h t s) (hf : cf_359_6 N X y0 t = some (t', o)) (k : (∀ h', kR h' t' s → kE o Q h')) : zz_J zp_P zt_tf zt_fd X d zm_359 6 [] [.int y0] h Q := by
  unfold cf_359_6 at hf
  cases hf
  exact cb_359_6 hR  (fun {h} hR => k h hR)
def cf_359_0 (N : Nat) (X : Nat → Option zz_C) (x0 : Nat) (x1 : Int32) (t : cS) : kO := if ¬ x0 < zz_out then (if hcl X [] x0 21 = true then (ko_call 21 (cf_360 N X x0 x1 0 t) (fun g1 v1 => co_i v1 (fun y => cf_359_6 N X y g1))) else none) else none
theorem cr_359_0 {X : Nat → Option zz_C} {s : mS} {N : Nat} {d : Nat} (hd : 3 ≤ d) {Q : zz_O → zz_H → Prop} {x0 : Nat} {x1 : Int32} {h : zz_H} {t t' : cS} {o : kY} (hR : kR h t s) (hf : cf_359_0 N X x0 x1 t = some (t', o)) (k : (∀ h', kR h' t' s → kE o Q h')) : zz_J zp_P zt_tf zt_fd X d zm_359 0 [(0, .ref x0), (1, .int x1)] [] h Q := by
  unfold cf_359_0 at hf
  obtain ⟨e0, hf⟩ := ko_if hf
  obtain ⟨e1, hf⟩ := ko_if hf
  obtain ⟨d', rfl⟩ : ∃ d', d = d' + 1 := ⟨d - 1, by omega⟩
  refine cb_359_0 hR e0 e1 (fun {h} hR => ?_)
  rcases ko_call_ok hf with ⟨g1, v1, er, hf⟩ | ⟨g1, er, hq⟩
  · obtain ⟨y, hv, hf2⟩ := co_i_ok hf
    clear hf
    have hf := hf2
    clear hf2
    subst hv
    refine cr_360 (by omega) hR er (fun h hR => ?_)
    exact cr_359_6 hd hR hf k
  · refine cr_360 (by omega) hR er (fun h hR => ?_)
    exact ko_thrown hq hR k
/-- indexOf -/
def cf_359 (N : Nat) (X : Nat → Option zz_C) (x0 : Nat) (x1 : Int32) (t : cS) : kO := cf_359_0 N X x0 x1 t
theorem cr_359 {X : Nat → Option zz_C} {s : mS} {N : Nat} {d : Nat} (hd : 3 ≤ d) {Q : zz_O → zz_H → Prop} {x0 : Nat} {x1 : Int32} {h : zz_H} {t t' : cS} {o : kY} (hR : kR h t s) (hf : cf_359 N X x0 x1 t = some (t', o)) (k : ∀ h', kR h' t' s → kE o Q h') : zz_J zp_P zt_tf zt_fd X d zm_359 0 [(0, .ref x0), (1, .int x1)] [] h Q := by
  unfold cf_359 at hf
  exact zz_J.weak (cr_359_0 hd hR hf k) rfl ⟨rfl, rfl, trivial⟩
