/-! yX12_dropOldest ()V -/
theorem cb_252_0 {X : Nat → Option zz_C} {h : zz_H} {t : cS} {s : mS} {d : Nat} {Q : zz_O → zz_H → Prop}  (hR : kR h t s) (e0 : ¬ ((0 : Int32) < 0 ∨ 6 ≤ (Int32.toNatClampNeg (0 : Int32)))) {w1 : Nat} (e1 : ((kM t) (Int32.toNatClampNeg (0 : Int32))) = some w1) (k : ∀ {h : zz_H}, kR h t s → zz_J zp_P zt_tf zt_fd X d zm_252 9 [(0, .ref 0), (1, .ref w1), (2, .int 1)] [] h Q) : zz_J zp_P zt_tf zt_fd X d zm_252 0 [(0, .ref 0)] [] h Q := by
  refine zz_J.n 1 rfl rfl rfl ?_
  refine zz_J.g 4 rfl (hR.gv (v := .ref (kD t 41)) ko_0 (by decide) rfl) rfl ?_
  refine zz_J.c 5 (.int 0) rfl rfl rfl rfl ?_
  refine zz_J.ar 6 rfl (hR.arM e0 e1) rfl ?_
  refine zz_J.n 7 rfl rfl rfl ?_
  refine zz_J.c 8 (.int 1) rfl rfl rfl rfl ?_
  refine zz_J.n 9 rfl rfl rfl ?_
  exact zz_J.weak (k hR) rfl ⟨rfl, rfl, rfl, trivial⟩
theorem cb_252_9 {X : Nat → Option zz_C} {h : zz_H} {t : cS} {s : mS} {d : Nat} {Q : zz_O → zz_H → Prop} {x1 : Nat} {x2 : Int32} (hR : kR h t s) (k1 : 6 ≤ x2 → (∀ {h : zz_H}, kR h t s → zz_J zp_P zt_tf zt_fd X d zm_252 35 [(0, .ref 0), (1, .ref x1)] [] h Q)) (k2 : ¬ 6 ≤ x2 → (∀ {h : zz_H}, kR h t s → zz_J zp_P zt_tf zt_fd X d zm_252 15 [(0, .ref 0), (1, .ref x1), (2, .int x2)] [] h Q)) : zz_J zp_P zt_tf zt_fd X d zm_252 9 [(0, .ref 0), (1, .ref x1), (2, .int x2)] [] h Q := by
  refine zz_J.n 10 rfl rfl rfl ?_
  refine zz_J.c 12 (.int 6) rfl rfl rfl rfl ?_
  refine zz_J.b2 35 15 (A := 6 ≤ x2) rfl rfl (by decide) rfl rfl (fun c => ?_) (fun c => ?_)
  · exact zz_J.weak (k1 c hR) rfl ⟨rfl, rfl, trivial⟩
  · exact zz_J.weak (k2 c hR) rfl ⟨rfl, rfl, rfl, trivial⟩
theorem cb_252_15 {X : Nat → Option zz_C} {h : zz_H} {t : cS} {s : mS} {d : Nat} {Q : zz_O → zz_H → Prop} {x1 : Nat} {x2 : Int32} (hR : kR h t s) (e0 : ¬ (x2 < 0 ∨ 6 ≤ (Int32.toNatClampNeg x2))) {w1 : Nat} (e1 : ((kM t) (Int32.toNatClampNeg x2)) = some w1) (e2 : ¬ ((x2 - 1) < 0 ∨ 6 ≤ (Int32.toNatClampNeg (x2 - 1)))) (e3 : kH t w1 = true) (k : ∀ {h : zz_H}, kR h (jM t (va_up (kM t) (Int32.toNatClampNeg (x2 - 1)) (some w1))) s → zz_J zp_P zt_tf zt_fd X d zm_252 9 [(0, .ref 0), (1, .ref x1), (2, .int (x2 + 1))] [] h Q) : zz_J zp_P zt_tf zt_fd X d zm_252 15 [(0, .ref 0), (1, .ref x1), (2, .int x2)] [] h Q := by
  refine zz_J.n 16 rfl rfl rfl ?_
  refine zz_J.g 19 rfl (hR.gv (v := .ref (kD t 41)) ko_0 (by decide) rfl) rfl ?_
  refine zz_J.n 20 rfl rfl rfl ?_
  refine zz_J.c 21 (.int 1) rfl rfl rfl rfl ?_
  refine zz_J.n 22 rfl rfl rfl ?_
  refine zz_J.n 23 rfl rfl rfl ?_
  refine zz_J.g 26 rfl (hR.gv (v := .ref (kD t 41)) ko_0 (by decide) rfl) rfl ?_
  refine zz_J.n 27 rfl rfl rfl ?_
  refine zz_J.ar 28 rfl (hR.arM e0 e1) rfl ?_
  obtain ⟨h1, eq1, hR⟩ := hR.stM (x0 := (kD t 41)) e3 e2 rfl
  refine zz_J.sr 29 rfl eq1 rfl ?_
  clear eq1
  refine zz_J.n 32 rfl rfl rfl ?_
  refine zz_J.n 9 rfl rfl rfl ?_
  exact zz_J.weak (k hR) rfl ⟨rfl, rfl, rfl, trivial⟩
theorem cb_252_35 {X : Nat → Option zz_C} {h : zz_H} {t : cS} {s : mS} {d : Nat} {Q : zz_O → zz_H → Prop} {x1 : Nat} (hR : kR h t s) (e0 : ¬ ((5 : Int32) < 0 ∨ 6 ≤ (Int32.toNatClampNeg (5 : Int32)))) (e1 : kH t x1 = true) (k : ∀ {h : zz_H}, kR h (jI (jM t (va_up (kM t) (Int32.toNatClampNeg (5 : Int32)) (some x1))) 0 9 ((kI t 0 9) - 1)) s → Q (.inl none) h) : zz_J zp_P zt_tf zt_fd X d zm_252 35 [(0, .ref 0), (1, .ref x1)] [] h Q := by
  refine zz_J.n 36 rfl rfl rfl ?_
  refine zz_J.g 39 rfl (hR.gv (v := .ref (kD t 41)) ko_0 (by decide) rfl) rfl ?_
  refine zz_J.c 40 (.int 5) rfl rfl rfl rfl ?_
  refine zz_J.n 41 rfl rfl rfl ?_
  obtain ⟨h1, eq1, hR⟩ := hR.stM (x0 := (kD t 41)) e1 e0 rfl
  refine zz_J.sr 42 rfl eq1 rfl ?_
  clear eq1
  refine zz_J.n 43 rfl rfl rfl ?_
  refine zz_J.n 44 rfl rfl rfl ?_
  refine zz_J.g 47 rfl (hR.gv (v := .int (kI t 0 9)) ko_0 (by decide) rfl) rfl ?_
  refine zz_J.c 48 (.int 1) rfl rfl rfl rfl ?_
  refine zz_J.n 49 rfl rfl rfl ?_
  obtain ⟨h1, eq1, hR⟩ := hR.pI (x := ((kI t 0 9) - 1)) (by decide) ko_0 (kpi_0_9 _) (Nat.le_of_ble_eq_true rfl) rfl
  refine zz_J.pv 52 rfl eq1 rfl ?_
  clear eq1
  refine zz_J.ret rfl rfl rfl ?_
  exact k hR
def cf_252_35 (N : Nat) (X : Nat → Option zz_C) (x1 : Nat) (t : cS) : kO := if ¬ ((5 : Int32) < 0 ∨ 6 ≤ (Int32.toNatClampNeg (5 : Int32))) then (if kH t x1 = true then (some ((jI (jM t (va_up (kM t) (Int32.toNatClampNeg (5 : Int32)) (some x1))) 0 9 ((kI t 0 9) - 1)), .inl none)) else none) else none
theorem cr_252_35 {X : Nat → Option zz_C} {s : mS} {N : Nat} {d : Nat} (hd : 0 ≤ d) {Q : zz_O → zz_H → Prop} {x1 : Nat} {h : zz_H} {t t' : cS} {o : kY} (hR : kR h t s) (hf : cf_252_35 N X x1 t = some (t', o)) (k : (∀ h', kR h' t' s → kE o Q h')) : zz_J zp_P zt_tf zt_fd X d zm_252 35 [(0, .ref 0), (1, .ref x1)] [] h Q := by
  unfold cf_252_35 at hf
  obtain ⟨e0, hf⟩ := ko_if hf
  obtain ⟨e1, hf⟩ := ko_if hf
  cases hf
  exact cb_252_35 hR e0 e1 (fun {h} hR => k h hR)
def cf_252_15 (N : Nat) (X : Nat → Option zz_C) (rc : Nat → Nat → Int32 → cS → kO) (x1 : Nat) (x2 : Int32) (t : cS) : kO := if ¬ (x2 < 0 ∨ 6 ≤ (Int32.toNatClampNeg x2)) then (co_b (((kM t) (Int32.toNatClampNeg x2))) (fun w1 => if ¬ ((x2 - 1) < 0 ∨ 6 ≤ (Int32.toNatClampNeg (x2 - 1))) then (if kH t w1 = true then (rc 0 x1 (x2 + 1) (jM t (va_up (kM t) (Int32.toNatClampNeg (x2 - 1)) (some w1)))) else none) else none)) else none
theorem cr_252_15 {X : Nat → Option zz_C} {s : mS} {N : Nat} {d : Nat} (hd : 0 ≤ d) {rc : Nat → Nat → Int32 → cS → kO} (hrc0 : ∀ {Q : zz_O → zz_H → Prop} {x1 : Nat} {x2 : Int32} {h : zz_H} {t t' : cS} {o : kY}, kR h t s → rc 0 x1 x2 t = some (t', o) → (∀ h', kR h' t' s → kE o Q h') → zz_J zp_P zt_tf zt_fd X d zm_252 9 [(0, .ref 0), (1, .ref x1), (2, .int x2)] [] h Q) {Q : zz_O → zz_H → Prop} {x1 : Nat} {x2 : Int32} {h : zz_H} {t t' : cS} {o : kY} (hR : kR h t s) (hf : cf_252_15 N X rc x1 x2 t = some (t', o)) (k : (∀ h', kR h' t' s → kE o Q h')) : zz_J zp_P zt_tf zt_fd X d zm_252 15 [(0, .ref 0), (1, .ref x1), (2, .int x2)] [] h Q := by
  unfold cf_252_15 at hf
  obtain ⟨e0, hf⟩ := ko_if hf
  obtain ⟨w1, e1, hf⟩ := co_b_ok hf
  obtain ⟨e2, hf⟩ := ko_if hf
  obtain ⟨e3, hf⟩ := ko_if hf
  exact cb_252_15 hR e0 e1 e2 e3 (fun hR => hrc0 hR hf k)
def cf_252_9 (N : Nat) (X : Nat → Option zz_C) (rc : Nat → Nat → Int32 → cS → kO) (x1 : Nat) (x2 : Int32) (t : cS) : kO := if 6 ≤ x2 then cf_252_35 N X x1 t else cf_252_15 N X rc x1 x2 t
theorem cr_252_9 {X : Nat → Option zz_C} {s : mS} {N : Nat} {d : Nat} (hd : 0 ≤ d) {rc : Nat → Nat → Int32 → cS → kO} (hrc0 : ∀ {Q : zz_O → zz_H → Prop} {x1 : Nat} {x2 : Int32} {h : zz_H} {t t' : cS} {o : kY}, kR h t s → rc 0 x1 x2 t = some (t', o) → (∀ h', kR h' t' s → kE o Q h') → zz_J zp_P zt_tf zt_fd X d zm_252 9 [(0, .ref 0), (1, .ref x1), (2, .int x2)] [] h Q) {Q : zz_O → zz_H → Prop} {x1 : Nat} {x2 : Int32} {h : zz_H} {t t' : cS} {o : kY} (hR : kR h t s) (hf : cf_252_9 N X rc x1 x2 t = some (t', o)) (k : (∀ h', kR h' t' s → kE o Q h')) : zz_J zp_P zt_tf zt_fd X d zm_252 9 [(0, .ref 0), (1, .ref x1), (2, .int x2)] [] h Q := by
  unfold cf_252_9 at hf
  refine cb_252_9 hR  (fun c {h} hR => ?_) (fun c {h} hR => ?_)
  · rw [if_pos c] at hf
    exact cr_252_35 hd hR hf k
  · rw [if_neg c] at hf
    exact cr_252_15 hd hrc0 hR hf k
def cf_252_L1 (N : Nat) (X : Nat → Option zz_C) : Nat → Nat → Nat → Int32 → cS → kO
  | 0, _, _, _, _ => none
  | n + 1, l, x1, x2, t => if l = 0 then cf_252_9 N X (cf_252_L1 N X n) x1 x2 t else none
theorem cr_252_L1 {X : Nat → Option zz_C} {s : mS} {N : Nat} {d : Nat} (hd : 0 ≤ d) : ∀ n : Nat, (∀ {Q : zz_O → zz_H → Prop} {x1 : Nat} {x2 : Int32} {h : zz_H} {t t' : cS} {o : kY}, kR h t s → cf_252_L1 N X n 0 x1 x2 t = some (t', o) → (∀ h', kR h' t' s → kE o Q h') → zz_J zp_P zt_tf zt_fd X d zm_252 9 [(0, .ref 0), (1, .ref x1), (2, .int x2)] [] h Q) := by
  intro n
  induction n with
  | zero => exact (fun _ hf _ => by cases hf)
  | succ n ih =>
    have h0 := @ih
    intro Q _ _ h t t' o hR hf k
    unfold cf_252_L1 at hf
    rw [if_pos rfl] at hf
    exact cr_252_9 hd h0 hR hf k
def cf_252_0 (N : Nat) (X : Nat → Option zz_C)  (t : cS) : kO := if ¬ ((0 : Int32) < 0 ∨ 6 ≤ (Int32.toNatClampNeg (0 : Int32))) then (co_b (((kM t) (Int32.toNatClampNeg (0 : Int32)))) (fun w1 => cf_252_L1 N X N 0 w1 1 t)) else none
theorem cr_252_0 {X : Nat → Option zz_C} {s : mS} {N : Nat} {d : Nat} (hd : 0 ≤ d) {Q : zz_O → zz_H → Prop}  {h : zz_H} {t t' : cS} {o : kY} (hR : kR h t s) (hf : cf_252_0 N X  t = some (t', o)) (k : (∀ h', kR h' t' s → kE o Q h')) : zz_J zp_P zt_tf zt_fd X d zm_252 0 [(0, .ref 0)] [] h Q := by
  unfold cf_252_0 at hf
  obtain ⟨e0, hf⟩ := ko_if hf
  obtain ⟨w1, e1, hf⟩ := co_b_ok hf
  exact cb_252_0 hR e0 e1 (fun hR => cr_252_L1 hd N hR hf k)
/-- dropOldest -/
def cf_252 (N : Nat) (X : Nat → Option zz_C)  (t : cS) : kO := cf_252_0 N X  t
theorem cr_252 {X : Nat → Option zz_C} {s : mS} {N : Nat} {d : Nat} (hd : 0 ≤ d) {Q : zz_O → zz_H → Prop}  {h : zz_H} {t t' : cS} {o : kY} (hR : kR h t s) (hf : cf_252 N X  t = some (t', o)) (k : ∀ h', kR h' t' s → kE o Q h') : zz_J zp_P zt_tf zt_fd X d zm_252 0 [(0, .ref 0)] [] h Q := by
  unfold cf_252 at hf
  exact zz_J.weak (cr_252_0 hd hR hf k) rfl ⟨rfl, trivial⟩
/-! yX7_copy (LTallySlate$Shelves;)V -/
theorem cb_29_0 {X : Nat → Option zz_C} {h : zz_H} {t : cS} {s : mS} {d : Nat} {Q : zz_O → zz_H → Prop} {x0 : Nat} {x1 : Nat} (hR : kR h t s) (k : ∀ {h : zz_H}, kR h t s → zz_J zp_P zt_tf zt_fd X d zm_29 2 [(0, .ref x0), (1, .ref x1), (2, .int 0)] [] h Q) : zz_J zp_P zt_tf zt_fd X d zm_29 0 [(0, .ref x0), (1, .ref x1)] [] h Q := by
  refine zz_J.c 1 (.int 0) rfl rfl rfl rfl ?_
  refine zz_J.n 2 rfl rfl rfl ?_
  exact zz_J.weak (k hR) rfl ⟨rfl, rfl, rfl, trivial⟩
theorem cb_29_2 {X : Nat → Option zz_C} {h : zz_H} {t : cS} {s : mS} {d : Nat} {Q : zz_O → zz_H → Prop} {x0 : Nat} {x1 : Nat} {x2 : Int32} (hR : kR h t s) (k1 : 8 ≤ x2 → (∀ {h : zz_H}, kR h t s → zz_J zp_P zt_tf zt_fd X d zm_29 79 [] [] h Q)) (k2 : ¬ 8 ≤ x2 → (∀ {h : zz_H}, kR h t s → zz_J zp_P zt_tf zt_fd X d zm_29 8 [(0, .ref x0), (1, .ref x1), (2, .int x2)] [] h Q)) : zz_J zp_P zt_tf zt_fd X d zm_29 2 [(0, .ref x0), (1, .ref x1), (2, .int x2)] [] h Q := by
  refine zz_J.n 3 rfl rfl rfl ?_
  refine zz_J.c 5 (.int 8) rfl rfl rfl rfl ?_
  refine zz_J.b2 79 8 (A := 8 ≤ x2) rfl rfl (by decide) rfl rfl (fun c => ?_) (fun c => ?_)
  · exact zz_J.weak (k1 c hR) rfl trivial
  · exact zz_J.weak (k2 c hR) rfl ⟨rfl, rfl, rfl, trivial⟩
theorem cb_29_8 {X : Nat → Option zz_C} {h : zz_H} {t : cS} {s : mS} {d : Nat} {Q : zz_O → zz_H → Prop} {x0 : Nat} {x1 : Nat} {x2 : Int32} (hR : kR h t s) (e0 : kH t x0 = true) (e1 : ¬ (x2 < 0 ∨ 8 ≤ (Int32.toNatClampNeg x2))) (e2 : kH t x1 = true) (e3 : ¬ (x2 < 0 ∨ (kA t (2000000 + 20 * x1 + 10)).1 ≤ (Int32.toNatClampNeg x2))) (k1 : ((kA t (2000000 + 20 * x1 + 10)).2 (Int32.toNatClampNeg x2)) ≤ (Int32.ofNat (kA t (2000000 + 20 * x0 + 1 + 1 + (Int32.toNatClampNeg x2))).1) → (∀ {h : zz_H}, kR h t s → zz_J zp_P zt_tf zt_fd X d zm_29 38 [(0, .ref x0), (1, .ref x1), (2, .int x2)] [] h Q)) (k2 : ¬ ((kA t (2000000 + 20 * x1 + 10)).2 (Int32.toNatClampNeg x2)) ≤ (Int32.ofNat (kA t (2000000 + 20 * x0 + 1 + 1 + (Int32.toNatClampNeg x2))).1) → (∀ {h : zz_H}, kR h t s → zz_J zp_P zt_tf zt_fd X d zm_29 24 [(0, .ref x0), (1, .ref x1), (2, .int x2)] [] h Q)) : zz_J zp_P zt_tf zt_fd X d zm_29 8 [(0, .ref x0), (1, .ref x1), (2, .int x2)] [] h Q := by
  refine zz_J.n 9 rfl rfl rfl ?_
  refine zz_J.g 12 rfl (hR.gvS (v := .ref (kD t (2000000 + 20 * x0 + 1))) e0 rfl) rfl ?_
  refine zz_J.n 13 rfl rfl rfl ?_
  refine zz_J.ar 14 rfl (hR.arS e0 e1) rfl ?_
  refine zz_J.ln 15 rfl (hR.ln (w := (Int32.ofNat (kA t (2000000 + 20 * x0 + 1 + 1 + (Int32.toNatClampNeg x2))).1)) (ka_Sr e0 e1) rfl (by decide) rfl) rfl ?_
  refine zz_J.n 16 rfl rfl rfl ?_
  refine zz_J.g 19 rfl (hR.gvS (v := .ref (kD t (2000000 + 20 * x1 + 10))) e2 rfl) rfl ?_
  refine zz_J.n 20 rfl rfl rfl ?_
  refine zz_J.ai 21 rfl (hR.ai (w := ((kA t (2000000 + 20 * x1 + 10)).2 (Int32.toNatClampNeg x2))) (ka_S10 e2) rfl e3 rfl) rfl ?_
  refine zz_J.b2 38 24 (A := ((kA t (2000000 + 20 * x1 + 10)).2 (Int32.toNatClampNeg x2)) ≤ (Int32.ofNat (kA t (2000000 + 20 * x0 + 1 + 1 + (Int32.toNatClampNeg x2))).1)) rfl rfl (by decide) rfl rfl (fun c => ?_) (fun c => ?_)
  · exact zz_J.weak (k1 c hR) rfl ⟨rfl, rfl, rfl, trivial⟩
  · exact zz_J.weak (k2 c hR) rfl ⟨rfl, rfl, rfl, trivial⟩
theorem cb_29_24 {X : Nat → Option zz_C} {h : zz_H} {t : cS} {s : mS} {d : Nat} {Q : zz_O → zz_H → Prop} {x0 : Nat} {x1 : Nat} {x2 : Int32} (hR : kR h t s) (e0 : kH t x0 = true) (e1 : kH t x1 = true) (e2 : ¬ (x2 < 0 ∨ (kA t (2000000 + 20 * x1 + 10)).1 ≤ (Int32.toNatClampNeg x2))) (e3 : ¬ ((kA t (2000000 + 20 * x1 + 10)).2 (Int32.toNatClampNeg x2)) < 0 ∧ (Int32.toNatClampNeg ((kA t (2000000 + 20 * x1 + 10)).2 (Int32.toNatClampNeg x2))) ≤ 1000000 ∧ (kN t) + 1 < zz_out) (e4 : ¬ (x2 < 0 ∨ 8 ≤ (Int32.toNatClampNeg x2))) (k : ∀ {h : zz_H}, kR h (jMv (jNI t 1 (Int32.toNatClampNeg ((kA t (2000000 + 20 * x1 + 10)).2 (Int32.toNatClampNeg x2))) (fun _ => 0)) (2000000 + 20 * x0 + 1 + 1 + (Int32.toNatClampNeg x2))) s → zz_J zp_P zt_tf zt_fd X d zm_29 38 [(0, .ref x0), (1, .ref x1), (2, .int x2)] [] h Q) : zz_J zp_P zt_tf zt_fd X d zm_29 24 [(0, .ref x0), (1, .ref x1), (2, .int x2)] [] h Q := by
  refine zz_J.n 25 rfl rfl rfl ?_
  refine zz_J.g 28 rfl (hR.gvS (v := .ref (kD t (2000000 + 20 * x0 + 1))) e0 rfl) rfl ?_
  refine zz_J.n 29 rfl rfl rfl ?_
  refine zz_J.n 30 rfl rfl rfl ?_
  refine zz_J.g 33 rfl (hR.gvS (v := .ref (kD t (2000000 + 20 * x1 + 10))) e1 rfl) rfl ?_
  refine zz_J.n 34 rfl rfl rfl ?_
  refine zz_J.ai 35 rfl (hR.ai (w := ((kA t (2000000 + 20 * x1 + 10)).2 (Int32.toNatClampNeg x2))) (ka_S10 e1) rfl e2 rfl) rfl ?_
  obtain ⟨h1, eq1, eh, hR⟩ := hR.na e3
  refine zz_J.na 37 rfl eq1 rfl ?_
  rw [eh]
  clear eq1 eh
  obtain ⟨h1, eq1, hR⟩ := hR.mvS e0 e4 (if_neg (by omega)) rfl rfl
  refine zz_J.sr 38 rfl eq1 rfl ?_
  clear eq1
  exact zz_J.weak (k hR) rfl ⟨rfl, rfl, rfl, trivial⟩
theorem cb_29_38 {X : Nat → Option zz_C} {h : zz_H} {t : cS} {s : mS} {d : Nat} {Q : zz_O → zz_H → Prop} {x0 : Nat} {x1 : Nat} {x2 : Int32} (hR : kR h t s) (e0 : kH t x1 = true) (e1 : ¬ (x2 < 0 ∨ 8 ≤ (Int32.toNatClampNeg x2))) (e2 : kH t x0 = true) (e3 : ¬ (x2 < 0 ∨ (kA t (2000000 + 20 * x1 + 10)).1 ≤ (Int32.toNatClampNeg x2))) (e4 : ¬ (0 : Int32) < 0 ∧ ¬ (0 : Int32) < 0 ∧ ¬ ((kA t (2000000 + 20 * x1 + 10)).2 (Int32.toNatClampNeg x2)) < 0 ∧ (Int32.toNatClampNeg (0 : Int32)) + (Int32.toNatClampNeg ((kA t (2000000 + 20 * x1 + 10)).2 (Int32.toNatClampNeg x2))) ≤ (kA t (2000000 + 20 * x1 + 1 + 1 + (Int32.toNatClampNeg x2))).1 ∧ (Int32.toNatClampNeg (0 : Int32)) + (Int32.toNatClampNeg ((kA t (2000000 + 20 * x1 + 10)).2 (Int32.toNatClampNeg x2))) ≤ (kA t (2000000 + 20 * x0 + 1 + 1 + (Int32.toNatClampNeg x2))).1) (e5 : ¬ (x2 < 0 ∨ (kA (jA t (2000000 + 20 * x0 + 1 + 1 + (Int32.toNatClampNeg x2)) (va_cpy (kA t (2000000 + 20 * x1 + 1 + 1 + (Int32.toNatClampNeg x2))).2 (kA t (2000000 + 20 * x0 + 1 + 1 + (Int32.toNatClampNeg x2))).2 (Int32.toNatClampNeg (0 : Int32)) (Int32.toNatClampNeg (0 : Int32)) (Int32.toNatClampNeg ((kA t (2000000 + 20 * x1 + 10)).2 (Int32.toNatClampNeg x2))))) (2000000 + 20 * x1 + 10)).1 ≤ (Int32.toNatClampNeg x2))) (e6 : ¬ (x2 < 0 ∨ (kA (jA t (2000000 + 20 * x0 + 1 + 1 + (Int32.toNatClampNeg x2)) (va_cpy (kA t (2000000 + 20 * x1 + 1 + 1 + (Int32.toNatClampNeg x2))).2 (kA t (2000000 + 20 * x0 + 1 + 1 + (Int32.toNatClampNeg x2))).2 (Int32.toNatClampNeg (0 : Int32)) (Int32.toNatClampNeg (0 : Int32)) (Int32.toNatClampNeg ((kA t (2000000 + 20 * x1 + 10)).2 (Int32.toNatClampNeg x2))))) (2000000 + 20 * x0 + 10)).1 ≤ (Int32.toNatClampNeg x2))) (k : ∀ {h : zz_H}, kR h (jA (jA t (2000000 + 20 * x0 + 1 + 1 + (Int32.toNatClampNeg x2)) (va_cpy (kA t (2000000 + 20 * x1 + 1 + 1 + (Int32.toNatClampNeg x2))).2 (kA t (2000000 + 20 * x0 + 1 + 1 + (Int32.toNatClampNeg x2))).2 (Int32.toNatClampNeg (0 : Int32)) (Int32.toNatClampNeg (0 : Int32)) (Int32.toNatClampNeg ((kA t (2000000 + 20 * x1 + 10)).2 (Int32.toNatClampNeg x2))))) (2000000 + 20 * x0 + 10) (upd (kA (jA t (2000000 + 20 * x0 + 1 + 1 + (Int32.toNatClampNeg x2)) (va_cpy (kA t (2000000 + 20 * x1 + 1 + 1 + (Int32.toNatClampNeg x2))).2 (kA t (2000000 + 20 * x0 + 1 + 1 + (Int32.toNatClampNeg x2))).2 (Int32.toNatClampNeg (0 : Int32)) (Int32.toNatClampNeg (0 : Int32)) (Int32.toNatClampNeg ((kA t (2000000 + 20 * x1 + 10)).2 (Int32.toNatClampNeg x2))))) (2000000 + 20 * x0 + 10)).2 (Int32.toNatClampNeg x2) ((kA (jA t (2000000 + 20 * x0 + 1 + 1 + (Int32.toNatClampNeg x2)) (va_cpy (kA t (2000000 + 20 * x1 + 1 + 1 + (Int32.toNatClampNeg x2))).2 (kA t (2000000 + 20 * x0 + 1 + 1 + (Int32.toNatClampNeg x2))).2 (Int32.toNatClampNeg (0 : Int32)) (Int32.toNatClampNeg (0 : Int32)) (Int32.toNatClampNeg ((kA t (2000000 + 20 * x1 + 10)).2 (Int32.toNatClampNeg x2))))) (2000000 + 20 * x1 + 10)).2 (Int32.toNatClampNeg x2)))) s → zz_J zp_P zt_tf zt_fd X (d + 1) zm_29 2 [(0, .ref x0), (1, .ref x1), (2, .int (x2 + 1))] [] h Q) : zz_J zp_P zt_tf zt_fd X (d + 1) zm_29 38 [(0, .ref x0), (1, .ref x1), (2, .int x2)] [] h Q := by
  refine zz_J.n 39 rfl rfl rfl ?_
  refine zz_J.g 42 rfl (hR.gvS (v := .ref (kD t (2000000 + 20 * x1 + 1))) e0 rfl) rfl ?_
  refine zz_J.n 43 rfl rfl rfl ?_
  refine zz_J.ar 44 rfl (hR.arS e0 e1) rfl ?_
  refine zz_J.c 45 (.int 0) rfl rfl rfl rfl ?_
  refine zz_J.n 46 rfl rfl rfl ?_
  refine zz_J.g 49 rfl (hR.gvS (v := .ref (kD t (2000000 + 20 * x0 + 1))) e2 rfl) rfl ?_
  refine zz_J.n 50 rfl rfl rfl ?_
  refine zz_J.ar 51 rfl (hR.arS e2 e1) rfl ?_
  refine zz_J.c 52 (.int 0) rfl rfl rfl rfl ?_
  refine zz_J.n 53 rfl rfl rfl ?_
  refine zz_J.g 56 rfl (hR.gvS (v := .ref (kD t (2000000 + 20 * x1 + 10))) e0 rfl) rfl ?_
  refine zz_J.n 57 rfl rfl rfl ?_
  refine zz_J.ai 58 rfl (hR.ai (w := ((kA t (2000000 + 20 * x1 + 10)).2 (Int32.toNatClampNeg x2))) (ka_S10 e0) rfl e3 rfl) rfl ?_
  obtain ⟨h1, eq1, hR⟩ := hR.cp (ka_Sr e0 e1) rfl (ka_Sr e2 e1) rfl e4
  refine zz_J.cp 61 rfl eq1 (Nat.le_of_ble_eq_true rfl) rfl ?_
  clear eq1
  refine zz_J.n 62 rfl rfl rfl ?_
  refine zz_J.g 65 rfl (hR.gvS (v := .ref (kD t (2000000 + 20 * x0 + 10))) e2 rfl) rfl ?_
  refine zz_J.n 66 rfl rfl rfl ?_
  refine zz_J.n 67 rfl rfl rfl ?_
  refine zz_J.g 70 rfl (hR.gvS (v := .ref (kD t (2000000 + 20 * x1 + 10))) e0 rfl) rfl ?_
  refine zz_J.n 71 rfl rfl rfl ?_
  refine zz_J.ai 72 rfl (hR.ai (w := ((kA (jA t (2000000 + 20 * x0 + 1 + 1 + (Int32.toNatClampNeg x2)) (va_cpy (kA t (2000000 + 20 * x1 + 1 + 1 + (Int32.toNatClampNeg x2))).2 (kA t (2000000 + 20 * x0 + 1 + 1 + (Int32.toNatClampNeg x2))).2 (Int32.toNatClampNeg (0 : Int32)) (Int32.toNatClampNeg (0 : Int32)) (Int32.toNatClampNeg ((kA t (2000000 + 20 * x1 + 10)).2 (Int32.toNatClampNeg x2))))) (2000000 + 20 * x1 + 10)).2 (Int32.toNatClampNeg x2))) (ka_S10 e0) rfl e5 rfl) rfl ?_
  obtain ⟨h1, eq1, hR⟩ := hR.si (x := ((kA (jA t (2000000 + 20 * x0 + 1 + 1 + (Int32.toNatClampNeg x2)) (va_cpy (kA t (2000000 + 20 * x1 + 1 + 1 + (Int32.toNatClampNeg x2))).2 (kA t (2000000 + 20 * x0 + 1 + 1 + (Int32.toNatClampNeg x2))).2 (Int32.toNatClampNeg (0 : Int32)) (Int32.toNatClampNeg (0 : Int32)) (Int32.toNatClampNeg ((kA t (2000000 + 20 * x1 + 10)).2 (Int32.toNatClampNeg x2))))) (2000000 + 20 * x1 + 10)).2 (Int32.toNatClampNeg x2))) (ka_S10 e2) rfl e6
  refine zz_J.si 73 rfl eq1 rfl ?_
  clear eq1
  refine zz_J.n 76 rfl rfl rfl ?_
  refine zz_J.n 2 rfl rfl rfl ?_
  exact zz_J.weak (k hR) rfl ⟨rfl, rfl, rfl, trivial⟩
theorem cb_29_79 {X : Nat → Option zz_C} {h : zz_H} {t : cS} {s : mS} {d : Nat} {Q : zz_O → zz_H → Prop}  (hR : kR h t s) (k : ∀ {h : zz_H}, kR h t s → Q (.inl none) h) : zz_J zp_P zt_tf zt_fd X d zm_29 79 [] [] h Q := by
  refine zz_J.ret rfl rfl rfl ?_
  exact k hR
def cf_29_79 (N : Nat) (X : Nat → Option zz_C)  (t : cS) : kO := some (t, .inl none)
theorem cr_29_79 {X : Nat → Option zz_C} {s : mS} {N : Nat} {d : Nat} (hd : 1 ≤ d) {Q : zz_O → zz_H → Prop}  {h : zz_H} {t t' : cS} {o : kY} (hR : kR h t s) (hf : cf_29_79 N X  t = some (t', o)) (k : (∀ h', kR h' t' s → kE o Q h')) : zz_J zp_P zt_tf zt_fd X d zm_29 79 [] [] h Q := by
  unfold cf_29_79 at hf
  cases hf
  exact cb_29_79 hR  (fun {h} hR => k h hR)
def cf_29_38 (N : Nat) (X : Nat → Option zz_C) (rc : Nat → Nat → Nat → Int32 → cS → kO) (x0 : Nat) (x1 : Nat) (x2 : Int32) (t : cS) : kO := if kH t x1 = true then (if ¬ (x2 < 0 ∨ 8 ≤ (Int32.toNatClampNeg x2)) then (if kH t x0 = true then (if ¬ (x2 < 0 ∨ (kA t (2000000 + 20 * x1 + 10)).1 ≤ (Int32.toNatClampNeg x2)) then (if ¬ (0 : Int32) < 0 ∧ ¬ (0 : Int32) < 0 ∧ ¬ ((kA t (2000000 + 20 * x1 + 10)).2 (Int32.toNatClampNeg x2)) < 0 ∧ (Int32.toNatClampNeg (0 : Int32)) + (Int32.toNatClampNeg ((kA t (2000000 + 20 * x1 + 10)).2 (Int32.toNatClampNeg x2))) ≤ (kA t (2000000 + 20 * x1 + 1 + 1 + (Int32.toNatClampNeg x2))).1 ∧ (Int32.toNatClampNeg (0 : Int32)) + (Int32.toNatClampNeg ((kA t (2000000 + 20 * x1 + 10)).2 (Int32.toNatClampNeg x2))) ≤ (kA t (2000000 + 20 * x0 + 1 + 1 + (Int32.toNatClampNeg x2))).1 then (if ¬ (x2 < 0 ∨ (kA (jA t (2000000 + 20 * x0 + 1 + 1 + (Int32.toNatClampNeg x2)) (va_cpy (kA t (2000000 + 20 * x1 + 1 + 1 + (Int32.toNatClampNeg x2))).2 (kA t (2000000 + 20 * x0 + 1 + 1 + (Int32.toNatClampNeg x2))).2 (Int32.toNatClampNeg (0 : Int32)) (Int32.toNatClampNeg (0 : Int32)) (Int32.toNatClampNeg ((kA t (2000000 + 20 * x1 + 10)).2 (Int32.toNatClampNeg x2))))) (2000000 + 20 * x1 + 10)).1 ≤ (Int32.toNatClampNeg x2)) then (if ¬ (x2 < 0 ∨ (kA (jA t (2000000 + 20 * x0 + 1 + 1 + (Int32.toNatClampNeg x2)) (va_cpy (kA t (2000000 + 20 * x1 + 1 + 1 + (Int32.toNatClampNeg x2))).2 (kA t (2000000 + 20 * x0 + 1 + 1 + (Int32.toNatClampNeg x2))).2 (Int32.toNatClampNeg (0 : Int32)) (Int32.toNatClampNeg (0 : Int32)) (Int32.toNatClampNeg ((kA t (2000000 + 20 * x1 + 10)).2 (Int32.toNatClampNeg x2))))) (2000000 + 20 * x0 + 10)).1 ≤ (Int32.toNatClampNeg x2)) then (rc 0 x0 x1 (x2 + 1) (jA (jA t (2000000 + 20 * x0 + 1 + 1 + (Int32.toNatClampNeg x2)) (va_cpy (kA t (2000000 + 20 * x1 + 1 + 1 + (Int32.toNatClampNeg x2))).2 (kA t (2000000 + 20 * x0 + 1 + 1 + (Int32.toNatClampNeg x2))).2 (Int32.toNatClampNeg (0 : Int32)) (Int32.toNatClampNeg (0 : Int32)) (Int32.toNatClampNeg ((kA t (2000000 + 20 * x1 + 10)).2 (Int32.toNatClampNeg x2))))) (2000000 + 20 * x0 + 10) (upd (kA (jA t (2000000 + 20 * x0 + 1 + 1 + (Int32.toNatClampNeg x2)) (va_cpy (kA t (2000000 + 20 * x1 + 1 + 1 + (Int32.toNatClampNeg x2))).2 (kA t (2000000 + 20 * x0 + 1 + 1 + (Int32.toNatClampNeg x2))).2 (Int32.toNatClampNeg (0 : Int32)) (Int32.toNatClampNeg (0 : Int32)) (Int32.toNatClampNeg ((kA t (2000000 + 20 * x1 + 10)).2 (Int32.toNatClampNeg x2))))) (2000000 + 20 * x0 + 10)).2 (Int32.toNatClampNeg x2) ((kA (jA t (2000000 + 20 * x0 + 1 + 1 + (Int32.toNatClampNeg x2)) (va_cpy (kA t (2000000 + 20 * x1 + 1 + 1 + (Int32.toNatClampNeg x2))).2 (kA t (2000000 + 20 * x0 + 1 + 1 + (Int32.toNatClampNeg x2))).2 (Int32.toNatClampNeg (0 : Int32)) (Int32.toNatClampNeg (0 : Int32)) (Int32.toNatClampNeg ((kA t (2000000 + 20 * x1 + 10)).2 (Int32.toNatClampNeg x2))))) (2000000 + 20 * x1 + 10)).2 (Int32.toNatClampNeg x2))))) else none) else none) else none) else none) else none) else none) else none
theorem cr_29_38 {X : Nat → Option zz_C} {s : mS} {N : Nat} {d : Nat} (hd : 1 ≤ d) {rc : Nat → Nat → Nat → Int32 → cS → kO} (hrc0 : ∀ {Q : zz_O → zz_H → Prop} {x0 : Nat} {x1 : Nat} {x2 : Int32} {h : zz_H} {t t' : cS} {o : kY}, kR h t s → rc 0 x0 x1 x2 t = some (t', o) → (∀ h', kR h' t' s → kE o Q h') → zz_J zp_P zt_tf zt_fd X d zm_29 2 [(0, .ref x0), (1, .ref x1), (2, .int x2)] [] h Q) {Q : zz_O → zz_H → Prop} {x0 : Nat} {x1 : Nat} {x2 : Int32} {h : zz_H} {t t' : cS} {o : kY} (hR : kR h t s) (hf : cf_29_38 N X rc x0 x1 x2 t = some (t', o)) (k : (∀ h', kR h' t' s → kE o Q h')) : zz_J zp_P zt_tf zt_fd X d zm_29 38 [(0, .ref x0), (1, .ref x1), (2, .int x2)] [] h Q := by
  unfold cf_29_38 at hf
  obtain ⟨e0, hf⟩ := ko_if hf
  obtain ⟨e1, hf⟩ := ko_if hf
  obtain ⟨e2, hf⟩ := ko_if hf
  obtain ⟨e3, hf⟩ := ko_if hf
  obtain ⟨e4, hf⟩ := ko_if hf
  obtain ⟨e5, hf⟩ := ko_if hf
  obtain ⟨e6, hf⟩ := ko_if hf
  obtain ⟨d', rfl⟩ : ∃ d', d = d' + 1 := ⟨d - 1, by omega⟩
  exact cb_29_38 hR e0 e1 e2 e3 e4 e5 e6 (fun hR => hrc0 hR hf k)
def cf_29_24 (N : Nat) (X : Nat → Option zz_C) (rc : Nat → Nat → Nat → Int32 → cS → kO) (x0 : Nat) (x1 : Nat) (x2 : Int32) (t : cS) : kO := if kH t x0 = true then (if kH t x1 = true then (if ¬ (x2 < 0 ∨ (kA t (2000000 + 20 * x1 + 10)).1 ≤ (Int32.toNatClampNeg x2)) then (if ¬ ((kA t (2000000 + 20 * x1 + 10)).2 (Int32.toNatClampNeg x2)) < 0 ∧ (Int32.toNatClampNeg ((kA t (2000000 + 20 * x1 + 10)).2 (Int32.toNatClampNeg x2))) ≤ 1000000 ∧ (kN t) + 1 < zz_out then (if ¬ (x2 < 0 ∨ 8 ≤ (Int32.toNatClampNeg x2)) then (cf_29_38 N X rc x0 x1 x2 (jMv (jNI t 1 (Int32.toNatClampNeg ((kA t (2000000 + 20 * x1 + 10)).2 (Int32.toNatClampNeg x2))) (fun _ => 0)) (2000000 + 20 * x0 + 1 + 1 + (Int32.toNatClampNeg x2)))) else none) else none) else none) else none) else none
theorem cr_29_24 {X : Nat → Option zz_C} {s : mS} {N : Nat} {d : Nat} (hd : 1 ≤ d) {rc : Nat → Nat → Nat → Int32 → cS → kO} (hrc0 : ∀ {Q : zz_O → zz_H → Prop} {x0 : Nat} {x1 : Nat} {x2 : Int32} {h : zz_H} {t t' : cS} {o : kY}, kR h t s → rc 0 x0 x1 x2 t = some (t', o) → (∀ h', kR h' t' s → kE o Q h') → zz_J zp_P zt_tf zt_fd X d zm_29 2 [(0, .ref x0), (1, .ref x1), (2, .int x2)] [] h Q) {Q : zz_O → zz_H → Prop} {x0 : Nat} {x1 : Nat} {x2 : Int32} {h : zz_H} {t t' : cS} {o : kY} (hR : kR h t s) (hf : cf_29_24 N X rc x0 x1 x2 t = some (t', o)) (k : (∀ h', kR h' t' s → kE o Q h')) : zz_J zp_P zt_tf zt_fd X d zm_29 24 [(0, .ref x0), (1, .ref x1), (2, .int x2)] [] h Q := by
  unfold cf_29_24 at hf
  obtain ⟨e0, hf⟩ := ko_if hf
  obtain ⟨e1, hf⟩ := ko_if hf
  obtain ⟨e2, hf⟩ := ko_if hf
  obtain ⟨e3, hf⟩ := ko_if hf
  obtain ⟨e4, hf⟩ := ko_if hf
  exact cb_29_24 hR e0 e1 e2 e3 e4 (fun hR => cr_29_38 hd hrc0 hR hf k)
def cf_29_8 (N : Nat) (X : Nat → Option zz_C) (rc : Nat → Nat → Nat → Int32 → cS → kO) (x0 : Nat) (x1 : Nat) (x2 : Int32) (t : cS) : kO := if kH t x0 = true then (if ¬ (x2 < 0 ∨ 8 ≤ (Int32.toNatClampNeg x2)) then (if kH t x1 = true then (if ¬ (x2 < 0 ∨ (kA t (2000000 + 20 * x1 + 10)).1 ≤ (Int32.toNatClampNeg x2)) then (if ((kA t (2000000 + 20 * x1 + 10)).2 (Int32.toNatClampNeg x2)) ≤ (Int32.ofNat (kA t (2000000 + 20 * x0 + 1 + 1 + (Int32.toNatClampNeg x2))).1) then cf_29_38 N X rc x0 x1 x2 t else cf_29_24 N X rc x0 x1 x2 t) else none) else none) else none) else none
theorem cr_29_8 {X : Nat → Option zz_C} {s : mS} {N : Nat} {d : Nat} (hd : 1 ≤ d) {rc : Nat → Nat → Nat → Int32 → cS → kO} (hrc0 : ∀ {Q : zz_O → zz_H → Prop} {x0 : Nat} {x1 : Nat} {x2 : Int32} {h : zz_H} {t t' : cS} {o : kY}, kR h t s → rc 0 x0 x1 x2 t = some (t', o) → (∀ h', kR h' t' s → kE o Q h') → zz_J zp_P zt_tf zt_fd X d zm_29 2 [(0, .ref x0), (1, .ref x1), (2, .int x2)] [] h Q) {Q : zz_O → zz_H → Prop} {x0 : Nat} {x1 : Nat} {x2 : Int32} {h : zz_H} {t t' : cS} {o : kY} (hR : kR h t s) (hf : cf_29_8 N X rc x0 x1 x2 t = some (t', o)) (k : (∀ h', kR h' t' s → kE o Q h')) : zz_J zp_P zt_tf zt_fd X d zm_29 8 [(0, .ref x0), (1, .ref x1), (2, .int x2)] [] h Q := by
  unfold cf_29_8 at hf
  obtain ⟨e0, hf⟩ := ko_if hf
  obtain ⟨e1, hf⟩ := ko_if hf
  obtain ⟨e2, hf⟩ := ko_if hf
  obtain ⟨e3, hf⟩ := ko_if hf
  refine cb_29_8 hR e0 e1 e2 e3 (fun c {h} hR => ?_) (fun c {h} hR => ?_)
  · rw [if_pos c] at hf
    exact cr_29_38 hd hrc0 hR hf k
  · rw [if_neg c] at hf
    exact cr_29_24 hd hrc0 hR hf k
def cf_29_2 (N : Nat) (X : Nat → Option zz_C) (rc : Nat → Nat → Nat → Int32 → cS → kO) (x0 : Nat) (x1 : Nat) (x2 : Int32) (t : cS) : kO := if 8 ≤ x2 then cf_29_79 N X  t else cf_29_8 N X rc x0 x1 x2 t
theorem cr_29_2 {X : Nat → Option zz_C} {s : mS} {N : Nat} {d : Nat} (hd : 1 ≤ d) {rc : Nat → Nat → Nat → Int32 → cS → kO} (hrc0 : ∀ {Q : zz_O → zz_H → Prop} {x0 : Nat} {x1 : Nat} {x2 : Int32} {h : zz_H} {t t' : cS} {o : kY}, kR h t s → rc 0 x0 x1 x2 t = some (t', o) → (∀ h', kR h' t' s → kE o Q h') → zz_J zp_P zt_tf zt_fd X d zm_29 2 [(0, .ref x0), (1, .ref x1), (2, .int x2)] [] h Q) {Q : zz_O → zz_H → Prop} {x0 : Nat} {x1 : Nat} {x2 : Int32} {h : zz_H} {t t' : cS} {o : kY} (hR : kR h t s) (hf : cf_29_2 N X rc x0 x1 x2 t = some (t', o)) (k : (∀ h', kR h' t' s → kE o Q h')) : zz_J zp_P zt_tf zt_fd X d zm_29 2 [(0, .ref x0), (1, .ref x1), (2, .int x2)] [] h Q := by
  unfold cf_29_2 at hf
  refine cb_29_2 hR  (fun c {h} hR => ?_) (fun c {h} hR => ?_)
  · rw [if_pos c] at hf
    exact cr_29_79 hd hR hf k
  · rw [if_neg c] at hf
    exact cr_29_8 hd hrc0 hR hf k
def cf_29_L1 (N : Nat) (X : Nat → Option zz_C) : Nat → Nat → Nat → Nat → Int32 → cS → kO
  | 0, _, _, _, _, _ => none
  | n + 1, l, x0, x1, x2, t => if l = 0 then cf_29_2 N X (cf_29_L1 N X n) x0 x1 x2 t else none
theorem cr_29_L1 {X : Nat → Option zz_C} {s : mS} {N : Nat} {d : Nat} (hd : 1 ≤ d) : ∀ n : Nat, (∀ {Q : zz_O → zz_H → Prop} {x0 : Nat} {x1 : Nat} {x2 : Int32} {h : zz_H} {t t' : cS} {o : kY}, kR h t s → cf_29_L1 N X n 0 x0 x1 x2 t = some (t', o) → (∀ h', kR h' t' s → kE o Q h') → zz_J zp_P zt_tf zt_fd X d zm_29 2 [(0, .ref x0), (1, .ref x1), (2, .int x2)] [] h Q) := by
  intro n
  induction n with
  | zero => exact (fun _ hf _ => by cases hf)
  | succ n ih =>
    have h0 := @ih
    intro Q _ _ _ h t t' o hR hf k
    unfold cf_29_L1 at hf
    rw [if_pos rfl] at hf
    exact cr_29_2 hd h0 hR hf k
def cf_29_0 (N : Nat) (X : Nat → Option zz_C) (x0 : Nat) (x1 : Nat) (t : cS) : kO := cf_29_L1 N X N 0 x0 x1 0 t
theorem cr_29_0 {X : Nat → Option zz_C} {s : mS} {N : Nat} {d : Nat} (hd : 1 ≤ d) {Q : zz_O → zz_H → Prop} {x0 : Nat} {x1 : Nat} {h : zz_H} {t t' : cS} {o : kY} (hR : kR h t s) (hf : cf_29_0 N X x0 x1 t = some (t', o)) (k : (∀ h', kR h' t' s → kE o Q h')) : zz_J zp_P zt_tf zt_fd X d zm_29 0 [(0, .ref x0), (1, .ref x1)] [] h Q := by
  unfold cf_29_0 at hf
  exact cb_29_0 hR  (fun hR => cr_29_L1 hd N hR hf k)
/-- copy -/
def cf_29 (N : Nat) (X : Nat → Option zz_C) (x0 : Nat) (x1 : Nat) (t : cS) : kO := cf_29_0 N X x0 x1 t
theorem cr_29 {X : Nat → Option zz_C} {s : mS} {N : Nat} {d : Nat} (hd : 1 ≤ d) {Q : zz_O → zz_H → Prop} {x0 : Nat} {x1 : Nat} {h : zz_H} {t t' : cS} {o : kY} (hR : kR h t s) (hf : cf_29 N X x0 x1 t = some (t', o)) (k : ∀ h', kR h' t' s → kE o Q h') : zz_J zp_P zt_tf zt_fd X d zm_29 0 [(0, .ref x0), (1, .ref x1)] [] h Q := by
  unfold cf_29 at hf
  exact zz_J.weak (cr_29_0 hd hR hf k) rfl ⟨rfl, rfl, trivial⟩
/-! yX12_mark ()I -/
theorem cb_18_0 {X : Nat → Option zz_C} {h : zz_H} {t : cS} {s : mS} {d : Nat} {Q : zz_O → zz_H → Prop}  (hR : kR h t s) (k1 : ¬ (kI t 0 9) = 6 → (∀ {h : zz_H}, kR h t s → zz_J zp_P zt_tf zt_fd X d zm_18 13 [(0, .ref 0)] [] h Q)) (k2 : ¬ ¬ (kI t 0 9) = 6 → (∀ {h : zz_H}, kR h t s → zz_J zp_P zt_tf zt_fd X d zm_18 9 [(0, .ref 0)] [] h Q)) : zz_J zp_P zt_tf zt_fd X d zm_18 0 [(0, .ref 0)] [] h Q := by
  refine zz_J.n 1 rfl rfl rfl ?_
  refine zz_J.g 4 rfl (hR.gv (v := .int (kI t 0 9)) ko_0 (by decide) rfl) rfl ?_
  refine zz_J.c 6 (.int 6) rfl rfl rfl rfl ?_
  refine zz_J.b2 13 9 (A := ¬ (kI t 0 9) = 6) rfl (zz_cond_ne _ _) (by decide) rfl rfl (fun c => ?_) (fun c => ?_)
  · exact zz_J.weak (k1 c hR) rfl ⟨rfl, trivial⟩
  · exact zz_J.weak (k2 c hR) rfl ⟨rfl, trivial⟩
theorem cb_18_9 {X : Nat → Option zz_C} {h : zz_H} {t : cS} {s : mS} {d : Nat} {Q : zz_O → zz_H → Prop}  (hR : kR h t s) (k : ∀ {h : zz_H}, kR h t s → zz_J zp_P zt_tf zt_fd X d zm_252 0 [(0, .ref 0)] [] h (zz_after 12 Q (fun v h' => zz_J zp_P zt_tf zt_fd X (d + 1) zm_18 13 [(0, .ref 0)] (v.toList ++ []) h' Q))) : zz_J zp_P zt_tf zt_fd X (d + 1) zm_18 9 [(0, .ref 0)] [] h Q := by
  refine zz_J.n 10 rfl rfl rfl ?_
  refine zz_J.cv 13 (as := []) rfl rfl (hR.clO ko_0 (by decide) (by decide)) (by decide) (Nat.le_of_ble_eq_true rfl) (Nat.le_of_ble_eq_true rfl) rfl (Nat.le_of_ble_eq_true rfl) rfl ?_
  refine zz_J.mono (k hR) ?_
  intro o h' hE
  cases o with
  | inl v => exact zz_J.weak hE rfl ⟨rfl, trivial⟩
  | inr q => exact hE
theorem cb_18_13 {X : Nat → Option zz_C} {h : zz_H} {t : cS} {s : mS} {d : Nat} {Q : zz_O → zz_H → Prop}  (hR : kR h t s) (e0 : ¬ ((kI t 0 9) < 0 ∨ 6 ≤ (Int32.toNatClampNeg (kI t 0 9)))) (k1 : ((kM t) (Int32.toNatClampNeg (kI t 0 9))).isSome = true → (∀ {h : zz_H}, kR h t s → zz_J zp_P zt_tf zt_fd X d zm_18 41 [(0, .ref 0)] [] h Q)) (k2 : ¬ ((kM t) (Int32.toNatClampNeg (kI t 0 9))).isSome = true → (∀ {h : zz_H}, kR h t s → zz_J zp_P zt_tf zt_fd X d zm_18 25 [(0, .ref 0)] [] h Q)) : zz_J zp_P zt_tf zt_fd X d zm_18 13 [(0, .ref 0)] [] h Q := by
  refine zz_J.n 14 rfl rfl rfl ?_
  refine zz_J.g 17 rfl (hR.gv (v := .ref (kD t 41)) ko_0 (by decide) rfl) rfl ?_
  refine zz_J.n 18 rfl rfl rfl ?_
  refine zz_J.g 21 rfl (hR.gv (v := .int (kI t 0 9)) ko_0 (by decide) rfl) rfl ?_
  refine zz_J.aq 22 rfl (hR.aqM e0) rfl ?_
  refine zz_J.bn 41 25 rfl (by decide) rfl rfl (fun c => ?_) (fun c => ?_)
  · exact zz_J.weak (k1 c hR) rfl ⟨rfl, trivial⟩
  · exact zz_J.weak (k2 c hR) rfl ⟨rfl, trivial⟩
theorem cb_18_25 {X : Nat → Option zz_C} {h : zz_H} {t : cS} {s : mS} {d : Nat} {Q : zz_O → zz_H → Prop}  (hR : kR h t s) (e0 : (kN t) + 11 < zz_out) (e1 : ¬ ((kI t 0 9) < 0 ∨ 6 ≤ (Int32.toNatClampNeg (kI t 0 9)))) (e2 : kH (jSh t) (kN t) = true) (k : ∀ {h : zz_H}, kR h (jM (jSh t) (va_up (kM t) (Int32.toNatClampNeg (kI t 0 9)) (some (kN t)))) s → zz_J zp_P zt_tf zt_fd X (d + 9) zm_18 41 [(0, .ref 0)] [] h Q) : zz_J zp_P zt_tf zt_fd X (d + 9) zm_18 25 [(0, .ref 0)] [] h Q := by
  refine zz_J.n 26 rfl rfl rfl ?_
  refine zz_J.g 29 rfl (hR.gv (v := .ref (kD t 41)) ko_0 (by decide) rfl) rfl ?_
  refine zz_J.n 30 rfl rfl rfl ?_
  refine zz_J.g 33 rfl (hR.gv (v := .int (kI t 0 9)) ko_0 (by decide) rfl) rfl ?_
  refine kq_newSh 40 rfl rfl rfl hR e0 (by decide) (by decide) (by decide) rfl (Nat.le_of_ble_eq_true rfl) (fun {h} hR => ?_)
  obtain ⟨h1, eq1, hR⟩ := hR.stM (x0 := (kD t 41)) e2 e1 (if_neg (by omega))
  refine zz_J.sr 41 rfl eq1 rfl ?_
  clear eq1
  exact zz_J.weak (k hR) rfl ⟨rfl, trivial⟩
theorem cb_18_41 {X : Nat → Option zz_C} {h : zz_H} {t : cS} {s : mS} {d : Nat} {Q : zz_O → zz_H → Prop}  (hR : kR h t s) (e0 : ¬ ((kI t 0 9) < 0 ∨ 6 ≤ (Int32.toNatClampNeg (kI t 0 9)))) {w1 : Nat} (e1 : ((kM t) (Int32.toNatClampNeg (kI t 0 9))) = some w1) {w2 : Nat} (e2 : (kP t 0 7) = some w2) (e3 : kH t w1 = true) (k : ∀ {h : zz_H}, kR h t s → zz_J zp_P zt_tf zt_fd X d zm_29 0 [(0, .ref w1), (1, .ref w2)] [] h (zz_after 7 Q (fun v h' => zz_J zp_P zt_tf zt_fd X (d + 1) zm_18 57 [(0, .ref 0)] (v.toList ++ []) h' Q))) : zz_J zp_P zt_tf zt_fd X (d + 1) zm_18 41 [(0, .ref 0)] [] h Q := by
  refine zz_J.n 42 rfl rfl rfl ?_
  refine zz_J.g 45 rfl (hR.gv (v := .ref (kD t 41)) ko_0 (by decide) rfl) rfl ?_
  refine zz_J.n 46 rfl rfl rfl ?_
  refine zz_J.g 49 rfl (hR.gv (v := .int (kI t 0 9)) ko_0 (by decide) rfl) rfl ?_
  refine zz_J.ar 50 rfl (hR.arM e0 e1) rfl ?_
  refine zz_J.n 51 rfl rfl rfl ?_
  refine zz_J.g 54 rfl (hR.gv (v := .ref w2) ko_0 (by decide) ((congrArg (fun q => some (zz_rv q)) e2).trans rfl)) rfl ?_
  refine zz_J.cv 57 (as := []) rfl rfl (hR.clS e3 (by decide)) (by decide) (Nat.le_of_ble_eq_true rfl) (Nat.le_of_ble_eq_true rfl) rfl (Nat.le_of_ble_eq_true rfl) rfl ?_
  refine zz_J.mono (k hR) ?_
  intro o h' hE
  cases o with
  | inl v => exact zz_J.weak hE rfl ⟨rfl, trivial⟩
  | inr q => exact hE
theorem cb_18_57 {X : Nat → Option zz_C} {h : zz_H} {t : cS} {s : mS} {d : Nat} {Q : zz_O → zz_H → Prop}  (hR : kR h t s) (k : ∀ {h : zz_H}, kR h (jI t 0 9 ((kI t 0 9) + 1)) s → Q (.inl (some (.int ((kI t 0 9) + 1)))) h) : zz_J zp_P zt_tf zt_fd X d zm_18 57 [(0, .ref 0)] [] h Q := by
  refine zz_J.n 58 rfl rfl rfl ?_
  refine zz_J.n 59 rfl rfl rfl ?_
  refine zz_J.g 62 rfl (hR.gv (v := .int (kI t 0 9)) ko_0 (by decide) rfl) rfl ?_
  refine zz_J.c 63 (.int 1) rfl rfl rfl rfl ?_
  refine zz_J.n 64 rfl rfl rfl ?_
  obtain ⟨h1, eq1, hR⟩ := hR.pI (x := ((kI t 0 9) + 1)) (by decide) ko_0 (kpi_0_9 _) (Nat.le_of_ble_eq_true rfl) rfl
  refine zz_J.pv 67 rfl eq1 rfl ?_
  clear eq1
  refine zz_J.n 68 rfl rfl rfl ?_
  refine zz_J.g 71 rfl (hR.gv (v := .int ((kI t 0 9) + 1)) ko_0 (by decide) rfl) rfl ?_
  refine zz_J.ret rfl rfl rfl ?_
  exact k hR
def cf_18_57 (N : Nat) (X : Nat → Option zz_C)  (t : cS) : kO := some ((jI t 0 9 ((kI t 0 9) + 1)), .inl (some (.int ((kI t 0 9) + 1))))
theorem cr_18_57 {X : Nat → Option zz_C} {s : mS} {N : Nat} {d : Nat} (hd : 9 ≤ d) {Q : zz_O → zz_H → Prop}  {h : zz_H} {t t' : cS} {o : kY} (hR : kR h t s) (hf : cf_18_57 N X  t = some (t', o)) (k : (∀ h', kR h' t' s → kE o Q h')) : zz_J zp_P zt_tf zt_fd X d zm_18 57 [(0, .ref 0)] [] h Q := by
  unfold cf_18_57 at hf
  cases hf
  exact cb_18_57 hR  (fun {h} hR => k h hR)
def cf_18_41 (N : Nat) (X : Nat → Option zz_C)  (t : cS) : kO := if ¬ ((kI t 0 9) < 0 ∨ 6 ≤ (Int32.toNatClampNeg (kI t 0 9))) then (co_b (((kM t) (Int32.toNatClampNeg (kI t 0 9)))) (fun w1 => co_b ((kP t 0 7)) (fun w2 => if kH t w1 = true then (ko_call 7 (cf_29 N X w1 w2 t) (fun g1 v1 => co_v v1 (cf_18_57 N X  g1))) else none))) else none
theorem cr_18_41 {X : Nat → Option zz_C} {s : mS} {N : Nat} {d : Nat} (hd : 9 ≤ d) {Q : zz_O → zz_H → Prop}  {h : zz_H} {t t' : cS} {o : kY} (hR : kR h t s) (hf : cf_18_41 N X  t = some (t', o)) (k : (∀ h', kR h' t' s → kE o Q h')) : zz_J zp_P zt_tf zt_fd X d zm_18 41 [(0, .ref 0)] [] h Q := by
  unfold cf_18_41 at hf
  obtain ⟨e0, hf⟩ := ko_if hf
  obtain ⟨w1, e1, hf⟩ := co_b_ok hf
  obtain ⟨w2, e2, hf⟩ := co_b_ok hf
  obtain ⟨e3, hf⟩ := ko_if hf
  obtain ⟨d', rfl⟩ : ∃ d', d = d' + 1 := ⟨d - 1, by omega⟩
  refine cb_18_41 hR e0 e1 e2 e3 (fun {h} hR => ?_)
  rcases ko_call_ok hf with ⟨g1, v1, er, hf⟩ | ⟨g1, er, hq⟩
  · obtain ⟨hv, hf2⟩ := co_v_ok hf
    clear hf
    have hf := hf2
    clear hf2
    subst hv
    refine cr_29 (by omega) hR er (fun h hR => ?_)
    exact cr_18_57 hd hR hf k
  · refine cr_29 (by omega) hR er (fun h hR => ?_)
    exact ko_thrown hq hR k
def cf_18_25 (N : Nat) (X : Nat → Option zz_C)  (t : cS) : kO := if (kN t) + 11 < zz_out then (if ¬ ((kI t 0 9) < 0 ∨ 6 ≤ (Int32.toNatClampNeg (kI t 0 9))) then (if kH (jSh t) (kN t) = true then (cf_18_41 N X  (jM (jSh t) (va_up (kM t) (Int32.toNatClampNeg (kI t 0 9)) (some (kN t))))) else none) else none) else none
theorem cr_18_25 {X : Nat → Option zz_C} {s : mS} {N : Nat} {d : Nat} (hd : 9 ≤ d) {Q : zz_O → zz_H → Prop}  {h : zz_H} {t t' : cS} {o : kY} (hR : kR h t s) (hf : cf_18_25 N X  t = some (t', o)) (k : (∀ h', kR h' t' s → kE o Q h')) : zz_J zp_P zt_tf zt_fd X d zm_18 25 [(0, .ref 0)] [] h Q := by
  unfold cf_18_25 at hf
  obtain ⟨e0, hf⟩ := ko_if hf
  obtain ⟨e1, hf⟩ := ko_if hf
  obtain ⟨e2, hf⟩ := ko_if hf
  obtain ⟨d', rfl⟩ : ∃ d', d = d' + 9 := ⟨d - 9, by omega⟩
  exact cb_18_25 hR e0 e1 e2 (fun hR => cr_18_41 hd hR hf k)
def cf_18_13 (N : Nat) (X : Nat → Option zz_C)  (t : cS) : kO := if ¬ ((kI t 0 9) < 0 ∨ 6 ≤ (Int32.toNatClampNeg (kI t 0 9))) then (if ((kM t) (Int32.toNatClampNeg (kI t 0 9))).isSome = true then cf_18_41 N X  t else cf_18_25 N X  t) else none
theorem cr_18_13 {X : Nat → Option zz_C} {s : mS} {N : Nat} {d : Nat} (hd : 9 ≤ d) {Q : zz_O → zz_H → Prop}  {h : zz_H} {t t' : cS} {o : kY} (hR : kR h t s) (hf : cf_18_13 N X  t = some (t', o)) (k : (∀ h', kR h' t' s → kE o Q h')) : zz_J zp_P zt_tf zt_fd X d zm_18 13 [(0, .ref 0)] [] h Q := by
  unfold cf_18_13 at hf
  obtain ⟨e0, hf⟩ := ko_if hf
  refine cb_18_13 hR e0 (fun c {h} hR => ?_) (fun c {h} hR => ?_)
  · rw [if_pos c] at hf
    exact cr_18_41 hd hR hf k
  · rw [if_neg c] at hf
    exact cr_18_25 hd hR hf k
def cf_18_9 (N : Nat) (X : Nat → Option zz_C)  (t : cS) : kO := ko_call 12 (cf_252 N X  t) (fun g1 v1 => co_v v1 (cf_18_13 N X  g1))
theorem cr_18_9 {X : Nat → Option zz_C} {s : mS} {N : Nat} {d : Nat} (hd : 9 ≤ d) {Q : zz_O → zz_H → Prop}  {h : zz_H} {t t' : cS} {o : kY} (hR : kR h t s) (hf : cf_18_9 N X  t = some (t', o)) (k : (∀ h', kR h' t' s → kE o Q h')) : zz_J zp_P zt_tf zt_fd X d zm_18 9 [(0, .ref 0)] [] h Q := by
  unfold cf_18_9 at hf
  obtain ⟨d', rfl⟩ : ∃ d', d = d' + 1 := ⟨d - 1, by omega⟩
  refine cb_18_9 hR  (fun {h} hR => ?_)
  rcases ko_call_ok hf with ⟨g1, v1, er, hf⟩ | ⟨g1, er, hq⟩
  · obtain ⟨hv, hf2⟩ := co_v_ok hf
    clear hf
    have hf := hf2
    clear hf2
    subst hv
    refine cr_252 (by omega) hR er (fun h hR => ?_)
    exact cr_18_13 hd hR hf k
  · refine cr_252 (by omega) hR er (fun h hR => ?_)
    exact ko_thrown hq hR k
def cf_18_0 (N : Nat) (X : Nat → Option zz_C)  (t : cS) : kO := if ¬ (kI t 0 9) = 6 then cf_18_13 N X  t else cf_18_9 N X  t
theorem cr_18_0 {X : Nat → Option zz_C} {s : mS} {N : Nat} {d : Nat} (hd : 9 ≤ d) {Q : zz_O → zz_H → Prop}  {h : zz_H} {t t' : cS} {o : kY} (hR : kR h t s) (hf : cf_18_0 N X  t = some (t', o)) (k : (∀ h', kR h' t' s → kE o Q h')) : zz_J zp_P zt_tf zt_fd X d zm_18 0 [(0, .ref 0)] [] h Q := by
  unfold cf_18_0 at hf
  refine cb_18_0 hR  (fun c {h} hR => ?_) (fun c {h} hR => ?_)
  · rw [if_pos c] at hf
    exact cr_18_13 hd hR hf k
  · rw [if_neg c] at hf
    exact cr_18_9 hd hR hf k
/-- mark -/
def cf_18 (N : Nat) (X : Nat → Option zz_C)  (t : cS) : kO := cf_18_0 N X  t
theorem cr_18 {X : Nat → Option zz_C} {s : mS} {N : Nat} {d : Nat} (hd : 9 ≤ d) {Q : zz_O → zz_H → Prop}  {h : zz_H} {t t' : cS} {o : kY} (hR : kR h t s) (hf : cf_18 N X  t = some (t', o)) (k : ∀ h', kR h' t' s → kE o Q h') : zz_J zp_P zt_tf zt_fd X d zm_18 0 [(0, .ref 0)] [] h Q := by
  unfold cf_18 at hf
  exact zz_J.weak (cr_18_0 hd hR hf k) rfl ⟨rfl, trivial⟩
/-! yX12_back ()Z -/
theorem cb_19_0 {X : Nat → Option zz_C} {h : zz_H} {t : cS} {s : mS} {d : Nat} {Q : zz_O → zz_H → Prop}  (hR : kR h t s) (k1 : ¬ (kI t 0 9) = 0 → (∀ {h : zz_H}, kR h t s → zz_J zp_P zt_tf zt_fd X d zm_19 9 [(0, .ref 0)] [] h Q)) (k2 : ¬ ¬ (kI t 0 9) = 0 → (∀ {h : zz_H}, kR h t s → zz_J zp_P zt_tf zt_fd X d zm_19 7 [] [] h Q)) : zz_J zp_P zt_tf zt_fd X d zm_19 0 [(0, .ref 0)] [] h Q := by
  refine zz_J.n 1 rfl rfl rfl ?_
  refine zz_J.g 4 rfl (hR.gv (v := .int (kI t 0 9)) ko_0 (by decide) rfl) rfl ?_
  refine zz_J.b1 9 7 (A := ¬ (kI t 0 9) = 0) rfl (zz_cond_ne _ _) (by decide) rfl rfl (fun c => ?_) (fun c => ?_)
  · exact zz_J.weak (k1 c hR) rfl ⟨rfl, trivial⟩
  · exact zz_J.weak (k2 c hR) rfl trivial
theorem cb_19_7 {X : Nat → Option zz_C} {h : zz_H} {t : cS} {s : mS} {d : Nat} {Q : zz_O → zz_H → Prop}  (hR : kR h t s) (k : ∀ {h : zz_H}, kR h t s → Q (.inl (some (.int 0))) h) : zz_J zp_P zt_tf zt_fd X d zm_19 7 [] [] h Q := by
  refine zz_J.c 8 (.int 0) rfl rfl rfl rfl ?_
  refine zz_J.ret rfl rfl rfl ?_
  exact k hR
theorem cb_19_9 {X : Nat → Option zz_C} {h : zz_H} {t : cS} {s : mS} {d : Nat} {Q : zz_O → zz_H → Prop}  (hR : kR h t s) (e0 : ¬ (((kI t 0 9) - 1) < 0 ∨ 6 ≤ (Int32.toNatClampNeg ((kI t 0 9) - 1)))) {w1 : Nat} (e1 : ((kM t) (Int32.toNatClampNeg ((kI t 0 9) - 1))) = some w1) (k : ∀ {h : zz_H}, kR h (jI t 0 9 ((kI t 0 9) - 1)) s → zz_J zp_P zt_tf zt_fd X d zm_19 33 [(0, .ref 0), (1, .ref w1)] [] h Q) : zz_J zp_P zt_tf zt_fd X d zm_19 9 [(0, .ref 0)] [] h Q := by
  refine zz_J.n 10 rfl rfl rfl ?_
  refine zz_J.n 11 rfl rfl rfl ?_
  refine zz_J.g 14 rfl (hR.gv (v := .int (kI t 0 9)) ko_0 (by decide) rfl) rfl ?_
  refine zz_J.c 15 (.int 1) rfl rfl rfl rfl ?_
  refine zz_J.n 16 rfl rfl rfl ?_
  obtain ⟨h1, eq1, hR⟩ := hR.pI (x := ((kI t 0 9) - 1)) (by decide) ko_0 (kpi_0_9 _) (Nat.le_of_ble_eq_true rfl) rfl
  refine zz_J.pv 19 rfl eq1 rfl ?_
  clear eq1
  refine zz_J.n 20 rfl rfl rfl ?_
  refine zz_J.g 23 rfl (hR.gv (v := .ref (kD t 41)) ko_0 (by decide) rfl) rfl ?_
  refine zz_J.n 24 rfl rfl rfl ?_
  refine zz_J.g 27 rfl (hR.gv (v := .int ((kI t 0 9) - 1)) ko_0 (by decide) rfl) rfl ?_
  refine zz_J.ar 28 rfl (hR.arM e0 e1) rfl ?_
  refine zz_J.n 29 rfl rfl rfl ?_
  refine zz_J.n 30 rfl rfl rfl ?_
  refine zz_J.bz 33 rfl (by decide) rfl ?_
  exact zz_J.weak (k hR) rfl ⟨rfl, rfl, trivial⟩
theorem cb_19_33 {X : Nat → Option zz_C} {h : zz_H} {t : cS} {s : mS} {d : Nat} {Q : zz_O → zz_H → Prop} {x1 : Nat} (hR : kR h t s) {w0 : Nat} (e0 : (kP t 0 7) = some w0) (e1 : ¬ ((kI t 0 9) < 0 ∨ 6 ≤ (Int32.toNatClampNeg (kI t 0 9)))) (e2 : kH t w0 = true) (k : ∀ {h : zz_H}, kR h (jP (jM t (va_up (kM t) (Int32.toNatClampNeg (kI t 0 9)) (some w0))) 0 7 (some x1)) s → zz_J zp_P zt_tf zt_fd X d zm_19 51 [] [] h Q) : zz_J zp_P zt_tf zt_fd X d zm_19 33 [(0, .ref 0), (1, .ref x1)] [] h Q := by
  refine zz_J.n 34 rfl rfl rfl ?_
  refine zz_J.g 37 rfl (hR.gv (v := .ref (kD t 41)) ko_0 (by decide) rfl) rfl ?_
  refine zz_J.n 38 rfl rfl rfl ?_
  refine zz_J.g 41 rfl (hR.gv (v := .int (kI t 0 9)) ko_0 (by decide) rfl) rfl ?_
  refine zz_J.n 42 rfl rfl rfl ?_
  refine zz_J.g 45 rfl (hR.gv (v := .ref w0) ko_0 (by decide) ((congrArg (fun q => some (zz_rv q)) e0).trans rfl)) rfl ?_
  obtain ⟨h1, eq1, hR⟩ := hR.stM (x0 := (kD t 41)) e2 e1 rfl
  refine zz_J.sr 46 rfl eq1 rfl ?_
  clear eq1
  refine zz_J.n 47 rfl rfl rfl ?_
  refine zz_J.n 48 rfl rfl rfl ?_
  obtain ⟨h1, eq1, hR⟩ := hR.pP (x := some x1) (by decide) ko_0 (kpi_0_7 _) (Nat.le_of_ble_eq_true rfl) rfl
  refine zz_J.pv 51 rfl eq1 rfl ?_
  clear eq1
  exact zz_J.weak (k hR) rfl trivial
theorem cb_19_51 {X : Nat → Option zz_C} {h : zz_H} {t : cS} {s : mS} {d : Nat} {Q : zz_O → zz_H → Prop}  (hR : kR h t s) (k : ∀ {h : zz_H}, kR h t s → Q (.inl (some (.int 1))) h) : zz_J zp_P zt_tf zt_fd X d zm_19 51 [] [] h Q := by
  refine zz_J.c 52 (.int 1) rfl rfl rfl rfl ?_
  refine zz_J.ret rfl rfl rfl ?_
  exact k hR
def cf_19_51 (N : Nat) (X : Nat → Option zz_C)  (t : cS) : kO := some (t, .inl (some (.int 1)))
theorem cr_19_51 {X : Nat → Option zz_C} {s : mS} {N : Nat} {d : Nat} (hd : 0 ≤ d) {Q : zz_O → zz_H → Prop}  {h : zz_H} {t t' : cS} {o : kY} (hR : kR h t s) (hf : cf_19_51 N X  t = some (t', o)) (k : (∀ h', kR h' t' s → kE o Q h')) : zz_J zp_P zt_tf zt_fd X d zm_19 51 [] [] h Q := by
  unfold cf_19_51 at hf
  cases hf
  exact cb_19_51 hR  (fun {h} hR => k h hR)
def cf_19_33 (N : Nat) (X : Nat → Option zz_C) (x1 : Nat) (t : cS) : kO := co_b ((kP t 0 7)) (fun w0 => if ¬ ((kI t 0 9) < 0 ∨ 6 ≤ (Int32.toNatClampNeg (kI t 0 9))) then (if kH t w0 = true then (cf_19_51 N X  (jP (jM t (va_up (kM t) (Int32.toNatClampNeg (kI t 0 9)) (some w0))) 0 7 (some x1))) else none) else none)
theorem cr_19_33 {X : Nat → Option zz_C} {s : mS} {N : Nat} {d : Nat} (hd : 0 ≤ d) {Q : zz_O → zz_H → Prop} {x1 : Nat} {h : zz_H} {t t' : cS} {o : kY} (hR : kR h t s) (hf : cf_19_33 N X x1 t = some (t', o)) (k : (∀ h', kR h' t' s → kE o Q h')) : zz_J zp_P zt_tf zt_fd X d zm_19 33 [(0, .ref 0), (1, .ref x1)] [] h Q := by
  unfold cf_19_33 at hf
  obtain ⟨w0, e0, hf⟩ := co_b_ok hf
  obtain ⟨e1, hf⟩ := ko_if hf
  obtain ⟨e2, hf⟩ := ko_if hf
  exact cb_19_33 hR e0 e1 e2 (fun hR => cr_19_51 hd hR hf k)
def cf_19_9 (N : Nat) (X : Nat → Option zz_C)  (t : cS) : kO := if ¬ (((kI t 0 9) - 1) < 0 ∨ 6 ≤ (Int32.toNatClampNeg ((kI t 0 9) - 1))) then (co_b (((kM t) (Int32.toNatClampNeg ((kI t 0 9) - 1)))) (fun w1 => cf_19_33 N X w1 (jI t 0 9 ((kI t 0 9) - 1)))) else none
theorem cr_19_9 {X : Nat → Option zz_C} {s : mS} {N : Nat} {d : Nat} (hd : 0 ≤ d) {Q : zz_O → zz_H → Prop}  {h : zz_H} {t t' : cS} {o : kY} (hR : kR h t s) (hf : cf_19_9 N X  t = some (t', o)) (k : (∀ h', kR h' t' s → kE o Q h')) : zz_J zp_P zt_tf zt_fd X d zm_19 9 [(0, .ref 0)] [] h Q := by
  unfold cf_19_9 at hf
  obtain ⟨e0, hf⟩ := ko_if hf
  obtain ⟨w1, e1, hf⟩ := co_b_ok hf
  exact cb_19_9 hR e0 e1 (fun hR => cr_19_33 hd hR hf k)
def cf_19_7 (N : Nat) (X : Nat → Option zz_C)  (t : cS) : kO := some (t, .inl (some (.int 0)))
theorem cr_19_7 {X : Nat → Option zz_C} {s : mS} {N : Nat} {d : Nat} (hd : 0 ≤ d) {Q : zz_O → zz_H → Prop}  {h : zz_H} {t t' : cS} {o : kY} (hR : kR h t s) (hf : cf_19_7 N X  t = some (t', o)) (k : (∀ h', kR h' t' s → kE o Q h')) : zz_J zp_P zt_tf zt_fd X d zm_19 7 [] [] h Q := by
  unfold cf_19_7 at hf
  cases hf
  exact cb_19_7 hR  (fun {h} hR => k h hR)
def cf_19_0 (N : Nat) (X : Nat → Option zz_C)  (t : cS) : kO := if ¬ (kI t 0 9) = 0 then cf_19_9 N X  t else cf_19_7 N X  t
theorem cr_19_0 {X : Nat → Option zz_C} {s : mS} {N : Nat} {d : Nat} (hd : 0 ≤ d) {Q : zz_O → zz_H → Prop}  {h : zz_H} {t t' : cS} {o : kY} (hR : kR h t s) (hf : cf_19_0 N X  t = some (t', o)) (k : (∀ h', kR h' t' s → kE o Q h')) : zz_J zp_P zt_tf zt_fd X d zm_19 0 [(0, .ref 0)] [] h Q := by
  unfold cf_19_0 at hf
  refine cb_19_0 hR  (fun c {h} hR => ?_) (fun c {h} hR => ?_)
  · rw [if_pos c] at hf
    exact cr_19_9 hd hR hf k
  · rw [if_neg c] at hf
    exact cr_19_7 hd hR hf k
/-- back -/
def cf_19 (N : Nat) (X : Nat → Option zz_C)  (t : cS) : kO := cf_19_0 N X  t
theorem cr_19 {X : Nat → Option zz_C} {s : mS} {N : Nat} {d : Nat} (hd : 0 ≤ d) {Q : zz_O → zz_H → Prop}  {h : zz_H} {t t' : cS} {o : kY} (hR : kR h t s) (hf : cf_19 N X  t = some (t', o)) (k : ∀ h', kR h' t' s → kE o Q h') : zz_J zp_P zt_tf zt_fd X d zm_19 0 [(0, .ref 0)] [] h Q := by
  unfold cf_19 at hf
  exact zz_J.weak (cr_19_0 hd hR hf k) rfl ⟨rfl, trivial⟩
/-! yX7_sumOn (IJ)J -/
theorem cb_28_0 {X : Nat → Option zz_C} {h : zz_H} {t : cS} {s : mS} {d : Nat} {Q : zz_O → zz_H → Prop} {x0 : Nat} {x1 : Int32} {x2 : Int64} (hR : kR h t s) (e0 : kH t x0 = true) (e1 : ¬ (x1 < 0 ∨ (kA t (2000000 + 20 * x0 + 10)).1 ≤ (Int32.toNatClampNeg x1))) (k1 : ¬ ((kA t (2000000 + 20 * x0 + 10)).2 (Int32.toNatClampNeg x1)) = 0 → (∀ {h : zz_H}, kR h t s → zz_J zp_P zt_tf zt_fd X d zm_28 19 [(0, .ref x0), (1, .int x1), (2, .long x2)] [] h Q)) (k2 : ¬ ¬ ((kA t (2000000 + 20 * x0 + 10)).2 (Int32.toNatClampNeg x1)) = 0 → (∀ {h : zz_H}, kR h t s → zz_J zp_P zt_tf zt_fd X d zm_28 9 [(2, .long x2)] [] h Q)) : zz_J zp_P zt_tf zt_fd X d zm_28 0 [(0, .ref x0), (1, .int x1), (2, .long x2)] [] h Q := by
  refine zz_J.n 1 rfl rfl rfl ?_
  refine zz_J.g 4 rfl (hR.gvS (v := .ref (kD t (2000000 + 20 * x0 + 10))) e0 rfl) rfl ?_
  refine zz_J.n 5 rfl rfl rfl ?_
  refine zz_J.ai 6 rfl (hR.ai (w := ((kA t (2000000 + 20 * x0 + 10)).2 (Int32.toNatClampNeg x1))) (ka_S10 e0) rfl e1 rfl) rfl ?_
  refine zz_J.b1 19 9 (A := ¬ ((kA t (2000000 + 20 * x0 + 10)).2 (Int32.toNatClampNeg x1)) = 0) rfl (zz_cond_ne _ _) (by decide) rfl rfl (fun c => ?_) (fun c => ?_)
  · exact zz_J.weak (k1 c hR) rfl ⟨rfl, rfl, rfl, trivial⟩
  · exact zz_J.weak (k2 c hR) rfl ⟨rfl, trivial⟩
theorem cb_28_9 {X : Nat → Option zz_C} {h : zz_H} {t : cS} {s : mS} {d : Nat} {Q : zz_O → zz_H → Prop} {x2 : Int64} (hR : kR h t s) (k : ∀ {h : zz_H}, kR h t s → Q (.inl (some (.long ((x2 * 1000003) ^^^ (-1))))) h) : zz_J zp_P zt_tf zt_fd X d zm_28 9 [(2, .long x2)] [] h Q := by
  refine zz_J.n 10 rfl rfl rfl ?_
  refine zz_J.c 13 (.long 1000003) rfl rfl rfl rfl ?_
  refine zz_J.n 14 rfl rfl rfl ?_
  refine zz_J.c 17 (.long (-1)) rfl rfl rfl rfl ?_
  refine zz_J.n 18 rfl rfl rfl ?_
  refine zz_J.ret rfl rfl rfl ?_
  exact k hR
theorem cb_28_19 {X : Nat → Option zz_C} {h : zz_H} {t : cS} {s : mS} {d : Nat} {Q : zz_O → zz_H → Prop} {x0 : Nat} {x1 : Int32} {x2 : Int64} (hR : kR h t s) (k : ∀ {h : zz_H}, kR h t s → zz_J zp_P zt_tf zt_fd X d zm_28 25 [(0, .ref x0), (1, .int x1), (4, .long x2), (6, .int 0)] [] h Q) : zz_J zp_P zt_tf zt_fd X d zm_28 19 [(0, .ref x0), (1, .int x1), (2, .long x2)] [] h Q := by
  refine zz_J.n 20 rfl rfl rfl ?_
  refine zz_J.n 22 rfl rfl rfl ?_
  refine zz_J.c 23 (.int 0) rfl rfl rfl rfl ?_
  refine zz_J.n 25 rfl rfl rfl ?_
  exact zz_J.weak (k hR) rfl ⟨rfl, rfl, rfl, rfl, trivial⟩
theorem cb_28_25 {X : Nat → Option zz_C} {h : zz_H} {t : cS} {s : mS} {d : Nat} {Q : zz_O → zz_H → Prop} {x0 : Nat} {x1 : Int32} {x4 : Int64} {x6 : Int32} (hR : kR h t s) (e0 : kH t x0 = true) (e1 : ¬ (x1 < 0 ∨ (kA t (2000000 + 20 * x0 + 10)).1 ≤ (Int32.toNatClampNeg x1))) (k1 : ((kA t (2000000 + 20 * x0 + 10)).2 (Int32.toNatClampNeg x1)) ≤ x6 → (∀ {h : zz_H}, kR h t s → zz_J zp_P zt_tf zt_fd X d zm_28 61 [(4, .long x4)] [] h Q)) (k2 : ¬ ((kA t (2000000 + 20 * x0 + 10)).2 (Int32.toNatClampNeg x1)) ≤ x6 → (∀ {h : zz_H}, kR h t s → zz_J zp_P zt_tf zt_fd X d zm_28 36 [(0, .ref x0), (1, .int x1), (4, .long x4), (6, .int x6)] [] h Q)) : zz_J zp_P zt_tf zt_fd X d zm_28 25 [(0, .ref x0), (1, .int x1), (4, .long x4), (6, .int x6)] [] h Q := by
  refine zz_J.n 27 rfl rfl rfl ?_
  refine zz_J.n 28 rfl rfl rfl ?_
  refine zz_J.g 31 rfl (hR.gvS (v := .ref (kD t (2000000 + 20 * x0 + 10))) e0 rfl) rfl ?_
  refine zz_J.n 32 rfl rfl rfl ?_
  refine zz_J.ai 33 rfl (hR.ai (w := ((kA t (2000000 + 20 * x0 + 10)).2 (Int32.toNatClampNeg x1))) (ka_S10 e0) rfl e1 rfl) rfl ?_
  refine zz_J.b2 61 36 (A := ((kA t (2000000 + 20 * x0 + 10)).2 (Int32.toNatClampNeg x1)) ≤ x6) rfl rfl (by decide) rfl rfl (fun c => ?_) (fun c => ?_)
  · exact zz_J.weak (k1 c hR) rfl ⟨rfl, trivial⟩
  · exact zz_J.weak (k2 c hR) rfl ⟨rfl, rfl, rfl, rfl, trivial⟩
theorem cb_28_36 {X : Nat → Option zz_C} {h : zz_H} {t : cS} {s : mS} {d : Nat} {Q : zz_O → zz_H → Prop} {x0 : Nat} {x1 : Int32} {x4 : Int64} {x6 : Int32} (hR : kR h t s) (e0 : kH t x0 = true) (e1 : ¬ (x1 < 0 ∨ 8 ≤ (Int32.toNatClampNeg x1))) (e2 : ¬ (x6 < 0 ∨ (kA t (2000000 + 20 * x0 + 1 + 1 + (Int32.toNatClampNeg x1))).1 ≤ (Int32.toNatClampNeg x6))) (k : ∀ {h : zz_H}, kR h t s → zz_J zp_P zt_tf zt_fd X d zm_28 25 [(0, .ref x0), (1, .int x1), (4, .long ((x4 * 1000003) ^^^ (Int32.toInt64 ((kA t (2000000 + 20 * x0 + 1 + 1 + (Int32.toNatClampNeg x1))).2 (Int32.toNatClampNeg x6))))), (6, .int (x6 + 1))] [] h Q) : zz_J zp_P zt_tf zt_fd X d zm_28 36 [(0, .ref x0), (1, .int x1), (4, .long x4), (6, .int x6)] [] h Q := by
  refine zz_J.n 38 rfl rfl rfl ?_
  refine zz_J.c 41 (.long 1000003) rfl rfl rfl rfl ?_
  refine zz_J.n 42 rfl rfl rfl ?_
  refine zz_J.n 43 rfl rfl rfl ?_
  refine zz_J.g 46 rfl (hR.gvS (v := .ref (kD t (2000000 + 20 * x0 + 1))) e0 rfl) rfl ?_
  refine zz_J.n 47 rfl rfl rfl ?_
  refine zz_J.ar 48 rfl (hR.arS e0 e1) rfl ?_
  refine zz_J.n 50 rfl rfl rfl ?_
  refine zz_J.ai 51 rfl (hR.ai (w := ((kA t (2000000 + 20 * x0 + 1 + 1 + (Int32.toNatClampNeg x1))).2 (Int32.toNatClampNeg x6))) (ka_Sr e0 e1) rfl e2 rfl) rfl ?_
  refine zz_J.n 52 rfl rfl rfl ?_
  refine zz_J.n 53 rfl rfl rfl ?_
  refine zz_J.n 55 rfl rfl rfl ?_
  refine zz_J.n 58 rfl rfl rfl ?_
  refine zz_J.n 25 rfl rfl rfl ?_
  exact zz_J.weak (k hR) rfl ⟨rfl, rfl, rfl, rfl, trivial⟩
theorem cb_28_61 {X : Nat → Option zz_C} {h : zz_H} {t : cS} {s : mS} {d : Nat} {Q : zz_O → zz_H → Prop} {x4 : Int64} (hR : kR h t s) (k : ∀ {h : zz_H}, kR h t s → Q (.inl (some (.long x4))) h) : zz_J zp_P zt_tf zt_fd X d zm_28 61 [(4, .long x4)] [] h Q := by
  refine zz_J.n 63 rfl rfl rfl ?_
  refine zz_J.ret rfl rfl rfl ?_
  exact k hR
def cf_28_61 (N : Nat) (X : Nat → Option zz_C) (x4 : Int64) (t : cS) : kO := some (t, .inl (some (.long x4)))
theorem cr_28_61 {X : Nat → Option zz_C} {s : mS} {N : Nat} {d : Nat} (hd : 0 ≤ d) {Q : zz_O → zz_H → Prop} {x4 : Int64} {h : zz_H} {t t' : cS} {o : kY} (hR : kR h t s) (hf : cf_28_61 N X x4 t = some (t', o)) (k : (∀ h', kR h' t' s → kE o Q h')) : zz_J zp_P zt_tf zt_fd X d zm_28 61 [(4, .long x4)] [] h Q := by
  unfold cf_28_61 at hf
  cases hf
  exact cb_28_61 hR  (fun {h} hR => k h hR)
def cf_28_36 (N : Nat) (X : Nat → Option zz_C) (rc : Nat → Nat → Int32 → Int64 → Int32 → cS → kO) (x0 : Nat) (x1 : Int32) (x4 : Int64) (x6 : Int32) (t : cS) : kO := if kH t x0 = true then (if ¬ (x1 < 0 ∨ 8 ≤ (Int32.toNatClampNeg x1)) then (if ¬ (x6 < 0 ∨ (kA t (2000000 + 20 * x0 + 1 + 1 + (Int32.toNatClampNeg x1))).1 ≤ (Int32.toNatClampNeg x6)) then (rc 0 x0 x1 ((x4 * 1000003) ^^^ (Int32.toInt64 ((kA t (2000000 + 20 * x0 + 1 + 1 + (Int32.toNatClampNeg x1))).2 (Int32.toNatClampNeg x6)))) (x6 + 1) t) else none) else none) else none
theorem cr_28_36 {X : Nat → Option zz_C} {s : mS} {N : Nat} {d : Nat} (hd : 0 ≤ d) {rc : Nat → Nat → Int32 → Int64 → Int32 → cS → kO} (hrc0 : ∀ {Q : zz_O → zz_H → Prop} {x0 : Nat} {x1 : Int32} {x4 : Int64} {x6 : Int32} {h : zz_H} {t t' : cS} {o : kY}, kR h t s → rc 0 x0 x1 x4 x6 t = some (t', o) → (∀ h', kR h' t' s → kE o Q h') → zz_J zp_P zt_tf zt_fd X d zm_28 25 [(0, .ref x0), (1, .int x1), (4, .long x4), (6, .int x6)] [] h Q) {Q : zz_O → zz_H → Prop} {x0 : Nat} {x1 : Int32} {x4 : Int64} {x6 : Int32} {h : zz_H} {t t' : cS} {o : kY} (hR : kR h t s) (hf : cf_28_36 N X rc x0 x1 x4 x6 t = some (t', o)) (k : (∀ h', kR h' t' s → kE o Q h')) : zz_J zp_P zt_tf zt_fd X d zm_28 36 [(0, .ref x0), (1, .int x1), (4, .long x4), (6, .int x6)] [] h Q := by
  unfold cf_28_36 at hf
  obtain ⟨e0, hf⟩ := ko_if hf
  obtain ⟨e1, hf⟩ := ko_if hf
  obtain ⟨e2, hf⟩ := ko_if hf
  exact cb_28_36 hR e0 e1 e2 (fun hR => hrc0 hR hf k)
def cf_28_25 (N : Nat) (X : Nat → Option zz_C) (rc : Nat → Nat → Int32 → Int64 → Int32 → cS → kO) (x0 : Nat) (x1 : Int32) (x4 : Int64) (x6 : Int32) (t : cS) : kO := if kH t x0 = true then (if ¬ (x1 < 0 ∨ (kA t (2000000 + 20 * x0 + 10)).1 ≤ (Int32.toNatClampNeg x1)) then (if ((kA t (2000000 + 20 * x0 + 10)).2 (Int32.toNatClampNeg x1)) ≤ x6 then cf_28_61 N X x4 t else cf_28_36 N X rc x0 x1 x4 x6 t) else none) else none
theorem cr_28_25 {X : Nat → Option zz_C} {s : mS} {N : Nat} {d : Nat} (hd : 0 ≤ d) {rc : Nat → Nat → Int32 → Int64 → Int32 → cS → kO} (hrc0 : ∀ {Q : zz_O → zz_H → Prop} {x0 : Nat} {x1 : Int32} {x4 : Int64} {x6 : Int32} {h : zz_H} {t t' : cS} {o : kY}, kR h t s → rc 0 x0 x1 x4 x6 t = some (t', o) → (∀ h', kR h' t' s → kE o Q h') → zz_J zp_P zt_tf zt_fd X d zm_28 25 [(0, .ref x0), (1, .int x1), (4, .long x4), (6, .int x6)] [] h Q) {Q : zz_O → zz_H → Prop} {x0 : Nat} {x1 : Int32} {x4 : Int64} {x6 : Int32} {h : zz_H} {t t' : cS} {o : kY} (hR : kR h t s) (hf : cf_28_25 N X rc x0 x1 x4 x6 t = some (t', o)) (k : (∀ h', kR h' t' s → kE o Q h')) : zz_J zp_P zt_tf zt_fd X d zm_28 25 [(0, .ref x0), (1, .int x1), (4, .long x4), (6, .int x6)] [] h Q := by
  unfold cf_28_25 at hf
  obtain ⟨e0, hf⟩ := ko_if hf
  obtain ⟨e1, hf⟩ := ko_if hf
  refine cb_28_25 hR e0 e1 (fun c {h} hR => ?_) (fun c {h} hR => ?_)
  · rw [if_pos c] at hf
    exact cr_28_61 hd hR hf k
  · rw [if_neg c] at hf
    exact cr_28_36 hd hrc0 hR hf k
def cf_28_L1 (N : Nat) (X : Nat → Option zz_C) : Nat → Nat → Nat → Int32 → Int64 → Int32 → cS → kO
  | 0, _, _, _, _, _, _ => none
  | n + 1, l, x0, x1, x4, x6, t => if l = 0 then cf_28_25 N X (cf_28_L1 N X n) x0 x1 x4 x6 t else none
theorem cr_28_L1 {X : Nat → Option zz_C} {s : mS} {N : Nat} {d : Nat} (hd : 0 ≤ d) : ∀ n : Nat, (∀ {Q : zz_O → zz_H → Prop} {x0 : Nat} {x1 : Int32} {x4 : Int64} {x6 : Int32} {h : zz_H} {t t' : cS} {o : kY}, kR h t s → cf_28_L1 N X n 0 x0 x1 x4 x6 t = some (t', o) → (∀ h', kR h' t' s → kE o Q h') → zz_J zp_P zt_tf zt_fd X d zm_28 25 [(0, .ref x0), (1, .int x1), (4, .long x4), (6, .int x6)] [] h Q) := by
  intro n
  induction n with
  | zero => exact (fun _ hf _ => by cases hf)
  | succ n ih =>
    have h0 := @ih
    intro Q _ _ _ _ h t t' o hR hf k
    unfold cf_28_L1 at hf
    rw [if_pos rfl] at hf
    exact cr_28_25 hd h0 hR hf k
def cf_28_19 (N : Nat) (X : Nat → Option zz_C) (x0 : Nat) (x1 : Int32) (x2 : Int64) (t : cS) : kO := cf_28_L1 N X N 0 x0 x1 x2 0 t
theorem cr_28_19 {X : Nat → Option zz_C} {s : mS} {N : Nat} {d : Nat} (hd : 0 ≤ d) {Q : zz_O → zz_H → Prop} {x0 : Nat} {x1 : Int32} {x2 : Int64} {h : zz_H} {t t' : cS} {o : kY} (hR : kR h t s) (hf : cf_28_19 N X x0 x1 x2 t = some (t', o)) (k : (∀ h', kR h' t' s → kE o Q h')) : zz_J zp_P zt_tf zt_fd X d zm_28 19 [(0, .ref x0), (1, .int x1), (2, .long x2)] [] h Q := by
  unfold cf_28_19 at hf
  exact cb_28_19 hR  (fun hR => cr_28_L1 hd N hR hf k)
def cf_28_9 (N : Nat) (X : Nat → Option zz_C) (x2 : Int64) (t : cS) : kO := some (t, .inl (some (.long ((x2 * 1000003) ^^^ (-1)))))
theorem cr_28_9 {X : Nat → Option zz_C} {s : mS} {N : Nat} {d : Nat} (hd : 0 ≤ d) {Q : zz_O → zz_H → Prop} {x2 : Int64} {h : zz_H} {t t' : cS} {o : kY} (hR : kR h t s) (hf : cf_28_9 N X x2 t = some (t', o)) (k : (∀ h', kR h' t' s → kE o Q h')) : zz_J zp_P zt_tf zt_fd X d zm_28 9 [(2, .long x2)] [] h Q := by
  unfold cf_28_9 at hf
  cases hf
  exact cb_28_9 hR  (fun {h} hR => k h hR)
def cf_28_0 (N : Nat) (X : Nat → Option zz_C) (x0 : Nat) (x1 : Int32) (x2 : Int64) (t : cS) : kO := if kH t x0 = true then (if ¬ (x1 < 0 ∨ (kA t (2000000 + 20 * x0 + 10)).1 ≤ (Int32.toNatClampNeg x1)) then (if ¬ ((kA t (2000000 + 20 * x0 + 10)).2 (Int32.toNatClampNeg x1)) = 0 then cf_28_19 N X x0 x1 x2 t else cf_28_9 N X x2 t) else none) else none
theorem cr_28_0 {X : Nat → Option zz_C} {s : mS} {N : Nat} {d : Nat} (hd : 0 ≤ d) {Q : zz_O → zz_H → Prop} {x0 : Nat} {x1 : Int32} {x2 : Int64} {h : zz_H} {t t' : cS} {o : kY} (hR : kR h t s) (hf : cf_28_0 N X x0 x1 x2 t = some (t', o)) (k : (∀ h', kR h' t' s → kE o Q h')) : zz_J zp_P zt_tf zt_fd X d zm_28 0 [(0, .ref x0), (1, .int x1), (2, .long x2)] [] h Q := by
  unfold cf_28_0 at hf
  obtain ⟨e0, hf⟩ := ko_if hf
  obtain ⟨e1, hf⟩ := ko_if hf
  refine cb_28_0 hR e0 e1 (fun c {h} hR => ?_) (fun c {h} hR => ?_)
  · rw [if_pos c] at hf
    exact cr_28_19 hd hR hf k
  · rw [if_neg c] at hf
    exact cr_28_9 hd hR hf k
/-- sumOn -/
def cf_28 (N : Nat) (X : Nat → Option zz_C) (x0 : Nat) (x1 : Int32) (x2 : Int64) (t : cS) : kO := cf_28_0 N X x0 x1 x2 t
theorem cr_28 {X : Nat → Option zz_C} {s : mS} {N : Nat} {d : Nat} (hd : 0 ≤ d) {Q : zz_O → zz_H → Prop} {x0 : Nat} {x1 : Int32} {x2 : Int64} {h : zz_H} {t t' : cS} {o : kY} (hR : kR h t s) (hf : cf_28 N X x0 x1 x2 t = some (t', o)) (k : ∀ h', kR h' t' s → kE o Q h') : zz_J zp_P zt_tf zt_fd X d zm_28 0 [(0, .ref x0), (1, .int x1), (2, .long x2)] [] h Q := by
  unfold cf_28 at hf
  exact zz_J.weak (cr_28_0 hd hR hf k) rfl ⟨rfl, rfl, rfl, trivial⟩
/-! yX12_sum ()J -/
theorem cb_20_0 {X : Nat → Option zz_C} {h : zz_H} {t : cS} {s : mS} {d : Nat} {Q : zz_O → zz_H → Prop}  (hR : kR h t s) (k : ∀ {h : zz_H}, kR h t s → zz_J zp_P zt_tf zt_fd X d zm_20 4 [(0, .ref 0), (1, .long 0), (3, .int 0)] [] h Q) : zz_J zp_P zt_tf zt_fd X d zm_20 0 [(0, .ref 0)] [] h Q := by
  refine zz_J.c 1 (.long 0) rfl rfl rfl rfl ?_
  refine zz_J.n 2 rfl rfl rfl ?_
  refine zz_J.c 3 (.int 0) rfl rfl rfl rfl ?_
  refine zz_J.n 4 rfl rfl rfl ?_
  exact zz_J.weak (k hR) rfl ⟨rfl, rfl, rfl, trivial⟩
theorem cb_20_4 {X : Nat → Option zz_C} {h : zz_H} {t : cS} {s : mS} {d : Nat} {Q : zz_O → zz_H → Prop} {x1 : Int64} {x3 : Int32} (hR : kR h t s) (k1 : 8 ≤ x3 → (∀ {h : zz_H}, kR h t s → zz_J zp_P zt_tf zt_fd X d zm_20 26 [(1, .long x1)] [] h Q)) (k2 : ¬ 8 ≤ x3 → (∀ {h : zz_H}, kR h t s → zz_J zp_P zt_tf zt_fd X d zm_20 10 [(0, .ref 0), (1, .long x1), (3, .int x3)] [] h Q)) : zz_J zp_P zt_tf zt_fd X d zm_20 4 [(0, .ref 0), (1, .long x1), (3, .int x3)] [] h Q := by
  refine zz_J.n 5 rfl rfl rfl ?_
  refine zz_J.c 7 (.int 8) rfl rfl rfl rfl ?_
  refine zz_J.b2 26 10 (A := 8 ≤ x3) rfl rfl (by decide) rfl rfl (fun c => ?_) (fun c => ?_)
  · exact zz_J.weak (k1 c hR) rfl ⟨rfl, trivial⟩
  · exact zz_J.weak (k2 c hR) rfl ⟨rfl, rfl, rfl, trivial⟩
theorem cb_20_10 {X : Nat → Option zz_C} {h : zz_H} {t : cS} {s : mS} {d : Nat} {Q : zz_O → zz_H → Prop} {x1 : Int64} {x3 : Int32} (hR : kR h t s) {w0 : Nat} (e0 : (kP t 0 7) = some w0) (e1 : kH t w0 = true) (k : ∀ {h : zz_H}, kR h t s → zz_J zp_P zt_tf zt_fd X d zm_28 0 [(0, .ref w0), (1, .int x3), (2, .long x1)] [] h (zz_after 7 Q (fun v h' => zz_J zp_P zt_tf zt_fd X (d + 1) zm_20 19 [(0, .ref 0), (3, .int x3)] (v.toList ++ []) h' Q))) : zz_J zp_P zt_tf zt_fd X (d + 1) zm_20 10 [(0, .ref 0), (1, .long x1), (3, .int x3)] [] h Q := by
  refine zz_J.n 11 rfl rfl rfl ?_
  refine zz_J.g 14 rfl (hR.gv (v := .ref w0) ko_0 (by decide) ((congrArg (fun q => some (zz_rv q)) e0).trans rfl)) rfl ?_
  refine zz_J.n 15 rfl rfl rfl ?_
  refine zz_J.n 16 rfl rfl rfl ?_
  refine zz_J.cv 19 (as := []) rfl rfl (hR.clS e1 (by decide)) (by decide) (Nat.le_of_ble_eq_true rfl) (Nat.le_of_ble_eq_true rfl) rfl (Nat.le_of_ble_eq_true rfl) rfl ?_
  refine zz_J.mono (k hR) ?_
  intro o h' hE
  cases o with
  | inl v => exact zz_J.weak hE rfl ⟨rfl, rfl, trivial⟩
  | inr q => exact hE
theorem cb_20_19 {X : Nat → Option zz_C} {h : zz_H} {t : cS} {s : mS} {d : Nat} {Q : zz_O → zz_H → Prop} {x3 : Int32} {y0 : Int64} (hR : kR h t s) (k : ∀ {h : zz_H}, kR h t s → zz_J zp_P zt_tf zt_fd X d zm_20 4 [(0, .ref 0), (1, .long y0), (3, .int (x3 + 1))] [] h Q) : zz_J zp_P zt_tf zt_fd X d zm_20 19 [(0, .ref 0), (3, .int x3)] [.long y0] h Q := by
  refine zz_J.n 20 rfl rfl rfl ?_
  refine zz_J.n 23 rfl rfl rfl ?_
  refine zz_J.n 4 rfl rfl rfl ?_
  exact zz_J.weak (k hR) rfl ⟨rfl, rfl, rfl, trivial⟩
theorem cb_20_26 {X : Nat → Option zz_C} {h : zz_H} {t : cS} {s : mS} {d : Nat} {Q : zz_O → zz_H → Prop} {x1 : Int64} (hR : kR h t s) (k : ∀ {h : zz_H}, kR h t s → Q (.inl (some (.long x1))) h) : zz_J zp_P zt_tf zt_fd X d zm_20 26 [(1, .long x1)] [] h Q := by
  refine zz_J.n 27 rfl rfl rfl ?_
  refine zz_J.ret rfl rfl rfl ?_
  exact k hR
def cf_20_26 (N : Nat) (X : Nat → Option zz_C) (x1 : Int64) (t : cS) : kO := some (t, .inl (some (.long x1)))
theorem cr_20_26 {X : Nat → Option zz_C} {s : mS} {N : Nat} {d : Nat} (hd : 1 ≤ d) {Q : zz_O → zz_H → Prop} {x1 : Int64} {h : zz_H} {t t' : cS} {o : kY} (hR : kR h t s) (hf : cf_20_26 N X x1 t = some (t', o)) (k : (∀ h', kR h' t' s → kE o Q h')) : zz_J zp_P zt_tf zt_fd X d zm_20 26 [(1, .long x1)] [] h Q := by
  unfold cf_20_26 at hf
  cases hf
  exact cb_20_26 hR  (fun {h} hR => k h hR)
def cf_20_19 (N : Nat) (X : Nat → Option zz_C) (rc : Nat → Int64 → Int32 → cS → kO) (x3 : Int32) (y0 : Int64) (t : cS) : kO := rc 0 y0 (x3 + 1) t
theorem cr_20_19 {X : Nat → Option zz_C} {s : mS} {N : Nat} {d : Nat} (hd : 1 ≤ d) {rc : Nat → Int64 → Int32 → cS → kO} (hrc0 : ∀ {Q : zz_O → zz_H → Prop} {x1 : Int64} {x3 : Int32} {h : zz_H} {t t' : cS} {o : kY}, kR h t s → rc 0 x1 x3 t = some (t', o) → (∀ h', kR h' t' s → kE o Q h') → zz_J zp_P zt_tf zt_fd X d zm_20 4 [(0, .ref 0), (1, .long x1), (3, .int x3)] [] h Q) {Q : zz_O → zz_H → Prop} {x3 : Int32} {y0 : Int64} {h : zz_H} {t t' : cS} {o : kY} (hR : kR h t s) (hf : cf_20_19 N X rc x3 y0 t = some (t', o)) (k : (∀ h', kR h' t' s → kE o Q h')) : zz_J zp_P zt_tf zt_fd X d zm_20 19 [(0, .ref 0), (3, .int x3)] [.long y0] h Q := by
  unfold cf_20_19 at hf
  exact cb_20_19 hR  (fun hR => hrc0 hR hf k)
def cf_20_10 (N : Nat) (X : Nat → Option zz_C) (rc : Nat → Int64 → Int32 → cS → kO) (x1 : Int64) (x3 : Int32) (t : cS) : kO := co_b ((kP t 0 7)) (fun w0 => if kH t w0 = true then (ko_call 7 (cf_28 N X w0 x3 x1 t) (fun g1 v1 => co_l v1 (fun y => cf_20_19 N X rc x3 y g1))) else none)
theorem cr_20_10 {X : Nat → Option zz_C} {s : mS} {N : Nat} {d : Nat} (hd : 1 ≤ d) {rc : Nat → Int64 → Int32 → cS → kO} (hrc0 : ∀ {Q : zz_O → zz_H → Prop} {x1 : Int64} {x3 : Int32} {h : zz_H} {t t' : cS} {o : kY}, kR h t s → rc 0 x1 x3 t = some (t', o) → (∀ h', kR h' t' s → kE o Q h') → zz_J zp_P zt_tf zt_fd X d zm_20 4 [(0, .ref 0), (1, .long x1), (3, .int x3)] [] h Q) {Q : zz_O → zz_H → Prop} {x1 : Int64} {x3 : Int32} {h : zz_H} {t t' : cS} {o : kY} (hR : kR h t s) (hf : cf_20_10 N X rc x1 x3 t = some (t', o)) (k : (∀ h', kR h' t' s → kE o Q h')) : zz_J zp_P zt_tf zt_fd X d zm_20 10 [(0, .ref 0), (1, .long x1), (3, .int x3)] [] h Q := by
  unfold cf_20_10 at hf
  obtain ⟨w0, e0, hf⟩ := co_b_ok hf
  obtain ⟨e1, hf⟩ := ko_if hf
  obtain ⟨d', rfl⟩ : ∃ d', d = d' + 1 := ⟨d - 1, by omega⟩
  refine cb_20_10 hR e0 e1 (fun {h} hR => ?_)
  rcases ko_call_ok hf with ⟨g1, v1, er, hf⟩ | ⟨g1, er, hq⟩
  · obtain ⟨y, hv, hf2⟩ := co_l_ok hf
    clear hf
    have hf := hf2
    clear hf2
    subst hv
    refine cr_28 (by omega) hR er (fun h hR => ?_)
    exact cr_20_19 hd hrc0 hR hf k
  · refine cr_28 (by omega) hR er (fun h hR => ?_)
    exact ko_thrown hq hR k
def cf_20_4 (N : Nat) (X : Nat → Option zz_C) (rc : Nat → Int64 → Int32 → cS → kO) (x1 : Int64) (x3 : Int32) (t : cS) : kO := if 8 ≤ x3 then cf_20_26 N X x1 t else cf_20_10 N X rc x1 x3 t
theorem cr_20_4 {X : Nat → Option zz_C} {s : mS} {N : Nat} {d : Nat} (hd : 1 ≤ d) {rc : Nat → Int64 → Int32 → cS → kO} (hrc0 : ∀ {Q : zz_O → zz_H → Prop} {x1 : Int64} {x3 : Int32} {h : zz_H} {t t' : cS} {o : kY}, kR h t s → rc 0 x1 x3 t = some (t', o) → (∀ h', kR h' t' s → kE o Q h') → zz_J zp_P zt_tf zt_fd X d zm_20 4 [(0, .ref 0), (1, .long x1), (3, .int x3)] [] h Q) {Q : zz_O → zz_H → Prop} {x1 : Int64} {x3 : Int32} {h : zz_H} {t t' : cS} {o : kY} (hR : kR h t s) (hf : cf_20_4 N X rc x1 x3 t = some (t', o)) (k : (∀ h', kR h' t' s → kE o Q h')) : zz_J zp_P zt_tf zt_fd X d zm_20 4 [(0, .ref 0), (1, .long x1), (3, .int x3)] [] h Q := by
  unfold cf_20_4 at hf
  refine cb_20_4 hR  (fun c {h} hR => ?_) (fun c {h} hR => ?_)
  · rw [if_pos c] at hf
    exact cr_20_26 hd hR hf k
  · rw [if_neg c] at hf
    exact cr_20_10 hd hrc0 hR hf k
def cf_20_L1 (N : Nat) (X : Nat → Option zz_C) : Nat → Nat → Int64 → Int32 → cS → kO
  | 0, _, _, _, _ => none
  | n + 1, l, x1, x3, t => if l = 0 then cf_20_4 N X (cf_20_L1 N X n) x1 x3 t else none
theorem cr_20_L1 {X : Nat → Option zz_C} {s : mS} {N : Nat} {d : Nat} (hd : 1 ≤ d) : ∀ n : Nat, (∀ {Q : zz_O → zz_H → Prop} {x1 : Int64} {x3 : Int32} {h : zz_H} {t t' : cS} {o : kY}, kR h t s → cf_20_L1 N X n 0 x1 x3 t = some (t', o) → (∀ h', kR h' t' s → kE o Q h') → zz_J zp_P zt_tf zt_fd X d zm_20 4 [(0, .ref 0), (1, .long x1), (3, .int x3)] [] h Q) := by
  intro n
  induction n with
  | zero => exact (fun _ hf _ => by cases hf)
  | succ n ih =>
    have h0 := @ih
    intro Q _ _ h t t' o hR hf k
    unfold cf_20_L1 at hf
    rw [if_pos rfl] at hf
    exact cr_20_4 hd h0 hR hf k
def cf_20_0 (N : Nat) (X : Nat → Option zz_C)  (t : cS) : kO := cf_20_L1 N X N 0 0 0 t
theorem cr_20_0 {X : Nat → Option zz_C} {s : mS} {N : Nat} {d : Nat} (hd : 1 ≤ d) {Q : zz_O → zz_H → Prop}  {h : zz_H} {t t' : cS} {o : kY} (hR : kR h t s) (hf : cf_20_0 N X  t = some (t', o)) (k : (∀ h', kR h' t' s → kE o Q h')) : zz_J zp_P zt_tf zt_fd X d zm_20 0 [(0, .ref 0)] [] h Q := by
  unfold cf_20_0 at hf
  exact cb_20_0 hR  (fun hR => cr_20_L1 hd N hR hf k)
/-- sum -/
def cf_20 (N : Nat) (X : Nat → Option zz_C)  (t : cS) : kO := cf_20_0 N X  t
theorem cr_20 {X : Nat → Option zz_C} {s : mS} {N : Nat} {d : Nat} (hd : 1 ≤ d) {Q : zz_O → zz_H → Prop}  {h : zz_H} {t t' : cS} {o : kY} (hR : kR h t s) (hf : cf_20 N X  t = some (t', o)) (k : ∀ h', kR h' t' s → kE o Q h') : zz_J zp_P zt_tf zt_fd X d zm_20 0 [(0, .ref 0)] [] h Q := by
  unfold cf_20 at hf
  exact zz_J.weak (cr_20_0 hd hR hf k) rfl ⟨rfl, trivial⟩
