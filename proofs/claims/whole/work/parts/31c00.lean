/-! ===== the class's methods as functions on states (printed by program: rfuncs.py) ===== -/
/-- what a method comes to: a value (or none) that is returned, or a throw -/
abbrev kY : Type := Option Value ⊕ Unit
abbrev kO : Type := Option (cS × kY)
def kE (o : kY) (Q : zz_O → zz_H → Prop) (h : zz_H) : Prop := match o with
  | .inl v => Q (.inl v) h
  | .inr _ => ∀ q, Q (.inr q) h
def co_b {α β : Type} (o : Option α) (g : α → Option β) : Option β := match o with
  | some a => g a
  | none => none
theorem co_b_ok {α β : Type} {o : Option α} {g : α → Option β} {r : β} (h : co_b o g = some r) : ∃ a, o = some a ∧ g a = some r := by
  unfold co_b at h
  split at h
  · exact ⟨_, rfl, h⟩
  · cases h
theorem ko_if {c : Prop} [Decidable c] {β : Type} {a : Option β} {r : β} (h : (if c then a else none) = some r) : c ∧ a = some r := by
  by_cases hc : c
  · rw [if_pos hc] at h
    exact ⟨hc, h⟩
  · rw [if_neg hc] at h
    cases h
def co_v (v : Option Value) (g : kO) : kO := match v with
  | none => g
  | _ => none
def co_i (v : Option Value) (g : Int32 → kO) : kO := match v with
  | some (.int y) => g y
  | _ => none
def co_l (v : Option Value) (g : Int64 → kO) : kO := match v with
  | some (.long y) => g y
  | _ => none
def co_r (v : Option Value) (g : Nat → kO) : kO := match v with
  | some (.ref y) => g y
  | _ => none
theorem co_v_ok {v : Option Value} {g : kO} {r : cS × kY} (h : co_v v g = some r) : v = none ∧ g = some r := by
  unfold co_v at h
  split at h
  · exact ⟨rfl, h⟩
  · cases h
theorem co_i_ok {v : Option Value} {g : Int32 → kO} {r : cS × kY} (h : co_i v g = some r) : ∃ y, v = some (.int y) ∧ g y = some r := by
  unfold co_i at h
  split at h
  · exact ⟨_, rfl, h⟩
  · cases h
theorem co_l_ok {v : Option Value} {g : Int64 → kO} {r : cS × kY} (h : co_l v g = some r) : ∃ y, v = some (.long y) ∧ g y = some r := by
  unfold co_l at h
  split at h
  · exact ⟨_, rfl, h⟩
  · cases h
theorem co_r_ok {v : Option Value} {g : Nat → kO} {r : cS × kY} (h : co_r v g = some r) : ∃ y, v = some (.ref y) ∧ g y = some r := by
  unfold co_r at h
  split at h
  · exact ⟨_, rfl, h⟩
  · cases h
/-- what follows a call -/
def ko_call (nn : Int) (r : kO) (g : cS → Option Value → kO) : kO := match r with
  | some (t1, .inl v) => g t1 v
  | some (t1, .inr q) => if nn = 5 then some (t1, .inr q) else if nn = 2005 then some (t1, .inl none) else none
  | none => none
theorem ko_call_ok {nn : Int} {r : kO} {g : cS → Option Value → kO} {q : cS × kY} (h : ko_call nn r g = some q) : (∃ t1 v, r = some (t1, .inl v) ∧ g t1 v = some q) ∨ (∃ t1, r = some (t1, .inr ()) ∧ ((nn = 5 ∧ q = (t1, .inr ())) ∨ (¬ nn = 5 ∧ nn = 2005 ∧ q = (t1, .inl none)))) := by
  unfold ko_call at h
  split at h
  · exact Or.inl ⟨_, _, rfl, h⟩
  · refine Or.inr ⟨_, rfl, ?_⟩
    split at h
    · rename_i h5
      cases h
      exact Or.inl ⟨h5, rfl⟩
    · rename_i h5
      split at h
      · rename_i h6
        cases h
        exact Or.inr ⟨h5, h6, rfl⟩
      · cases h
  · cases h
theorem ko_thrown {nn : Int} {Q : zz_O → zz_H → Prop} {K : Option Value → zz_H → Prop} {h : zz_H} {t1 t' : cS} {s : mS} {o : kY} (hq : (nn = 5 ∧ (t', o) = (t1, (.inr () : kY))) ∨ (¬ nn = 5 ∧ nn = 2005 ∧ (t', o) = (t1, (.inl none : kY)))) (hR : kR h t1 s) (k : ∀ h', kR h' t' s → kE o Q h') : kE (.inr ()) (zz_after nn Q K) h := by
  intro x
  unfold zz_after
  dsimp only
  rcases hq with ⟨h5, e⟩ | ⟨h5, h6, e⟩
  · cases e
    rw [if_pos h5]
    exact k h hR x
  · cases e
    rw [if_neg h5, if_pos h6]
    exact k h hR
/-! yX12_tapeFour (I)V -/
theorem cb_2_0 {X : Nat → Option zz_C} {h : zz_H} {t : cS} {s : mS} {d : Nat} {Q : zz_O → zz_H → Prop} {x1 : Int32} (hR : kR h t s) (k : ∀ {h : zz_H}, kR h t s → zz_J zp_P zt_tf zt_fd X d zm_2 3 [(0, .ref 0), (1, .int x1), (2, .int 24)] [] h Q) : zz_J zp_P zt_tf zt_fd X d zm_2 0 [(0, .ref 0), (1, .int x1)] [] h Q := by
  refine zz_J.c 2 (.int 24) rfl rfl rfl rfl ?_
  refine zz_J.n 3 rfl rfl rfl ?_
  exact zz_J.weak (k hR) rfl ⟨rfl, rfl, rfl, trivial⟩
theorem cb_2_3 {X : Nat → Option zz_C} {h : zz_H} {t : cS} {s : mS} {d : Nat} {Q : zz_O → zz_H → Prop} {x1 : Int32} {x2 : Int32} (hR : kR h t s) (k1 : x2 < 0 → (∀ {h : zz_H}, kR h t s → zz_J zp_P zt_tf zt_fd X d zm_2 36 [] [] h Q)) (k2 : ¬ x2 < 0 → (∀ {h : zz_H}, kR h t s → zz_J zp_P zt_tf zt_fd X d zm_2 7 [(0, .ref 0), (1, .int x1), (2, .int x2)] [] h Q)) : zz_J zp_P zt_tf zt_fd X d zm_2 3 [(0, .ref 0), (1, .int x1), (2, .int x2)] [] h Q := by
  refine zz_J.n 4 rfl rfl rfl ?_
  refine zz_J.b1 36 7 (A := x2 < 0) rfl rfl (by decide) rfl rfl (fun c => ?_) (fun c => ?_)
  · exact zz_J.weak (k1 c hR) rfl trivial
  · exact zz_J.weak (k2 c hR) rfl ⟨rfl, rfl, rfl, trivial⟩
theorem cb_2_7 {X : Nat → Option zz_C} {h : zz_H} {t : cS} {s : mS} {d : Nat} {Q : zz_O → zz_H → Prop} {x1 : Int32} {x2 : Int32} (hR : kR h t s) (e0 : ¬ ((kI t 0 1) < 0 ∨ (kA t 1).1 ≤ (Int32.toNatClampNeg (kI t 0 1)))) (k : ∀ {h : zz_H}, kR h (jI (jA t 1 (upd (kA t 1).2 (Int32.toNatClampNeg (kI t 0 1)) (vp_nar (zz_ty 2) (Int8.toInt32 (Int32.toInt8 (x1 >>> (x2 &&& 31))))))) 0 1 ((kI t 0 1) + 1)) s → zz_J zp_P zt_tf zt_fd X d zm_2 3 [(0, .ref 0), (1, .int x1), (2, .int (x2 + (-8)))] [] h Q) : zz_J zp_P zt_tf zt_fd X d zm_2 7 [(0, .ref 0), (1, .int x1), (2, .int x2)] [] h Q := by
  refine zz_J.n 8 rfl rfl rfl ?_
  refine zz_J.g 11 rfl (hR.gv (v := .ref (kD t 1)) ko_0 (by decide) rfl) rfl ?_
  refine zz_J.n 12 rfl rfl rfl ?_
  refine zz_J.g 15 rfl (hR.gv (v := .int (kI t 0 1)) ko_0 (by decide) rfl) rfl ?_
  refine zz_J.n 16 rfl rfl rfl ?_
  refine zz_J.n 17 rfl rfl rfl ?_
  refine zz_J.n 18 rfl rfl rfl ?_
  refine zz_J.n 19 rfl rfl rfl ?_
  obtain ⟨h1, eq1, hR⟩ := hR.sb (x := (Int8.toInt32 (Int32.toInt8 (x1 >>> (x2 &&& 31))))) ka_1 rfl (by decide) e0
  refine zz_J.sb 20 rfl eq1 rfl ?_
  clear eq1
  refine zz_J.n 21 rfl rfl rfl ?_
  refine zz_J.n 22 rfl rfl rfl ?_
  refine zz_J.g 25 rfl (hR.gv (v := .int (kI t 0 1)) ko_0 (by decide) rfl) rfl ?_
  refine zz_J.c 26 (.int 1) rfl rfl rfl rfl ?_
  refine zz_J.n 27 rfl rfl rfl ?_
  obtain ⟨h1, eq1, hR⟩ := hR.pI (x := ((kI t 0 1) + 1)) (by decide) ko_0 (kpi_0_1 _) (Nat.le_of_ble_eq_true rfl) rfl
  refine zz_J.pv 30 rfl eq1 rfl ?_
  clear eq1
  refine zz_J.n 33 rfl rfl rfl ?_
  refine zz_J.n 3 rfl rfl rfl ?_
  exact zz_J.weak (k hR) rfl ⟨rfl, rfl, rfl, trivial⟩
theorem cb_2_36 {X : Nat → Option zz_C} {h : zz_H} {t : cS} {s : mS} {d : Nat} {Q : zz_O → zz_H → Prop}  (hR : kR h t s) (k : ∀ {h : zz_H}, kR h t s → Q (.inl none) h) : zz_J zp_P zt_tf zt_fd X d zm_2 36 [] [] h Q := by
  refine zz_J.ret rfl rfl rfl ?_
  exact k hR
def cf_2_36 (N : Nat) (X : Nat → Option zz_C)  (t : cS) : kO := some (t, .inl none)
theorem cr_2_36 {X : Nat → Option zz_C} {s : mS} {N : Nat} {d : Nat} (hd : 0 ≤ d) {Q : zz_O → zz_H → Prop}  {h : zz_H} {t t' : cS} {o : kY} (hR : kR h t s) (hf : cf_2_36 N X  t = some (t', o)) (k : (∀ h', kR h' t' s → kE o Q h')) : zz_J zp_P zt_tf zt_fd X d zm_2 36 [] [] h Q := by
  unfold cf_2_36 at hf
  cases hf
  exact cb_2_36 hR  (fun {h} hR => k h hR)
def cf_2_7 (N : Nat) (X : Nat → Option zz_C) (rc : Nat → Int32 → Int32 → cS → kO) (x1 : Int32) (x2 : Int32) (t : cS) : kO := if ¬ ((kI t 0 1) < 0 ∨ (kA t 1).1 ≤ (Int32.toNatClampNeg (kI t 0 1))) then (rc 0 x1 (x2 + (-8)) (jI (jA t 1 (upd (kA t 1).2 (Int32.toNatClampNeg (kI t 0 1)) (vp_nar (zz_ty 2) (Int8.toInt32 (Int32.toInt8 (x1 >>> (x2 &&& 31))))))) 0 1 ((kI t 0 1) + 1))) else none
theorem cr_2_7 {X : Nat → Option zz_C} {s : mS} {N : Nat} {d : Nat} (hd : 0 ≤ d) {rc : Nat → Int32 → Int32 → cS → kO} (hrc0 : ∀ {Q : zz_O → zz_H → Prop} {x1 : Int32} {x2 : Int32} {h : zz_H} {t t' : cS} {o : kY}, kR h t s → rc 0 x1 x2 t = some (t', o) → (∀ h', kR h' t' s → kE o Q h') → zz_J zp_P zt_tf zt_fd X d zm_2 3 [(0, .ref 0), (1, .int x1), (2, .int x2)] [] h Q) {Q : zz_O → zz_H → Prop} {x1 : Int32} {x2 : Int32} {h : zz_H} {t t' : cS} {o : kY} (hR : kR h t s) (hf : cf_2_7 N X rc x1 x2 t = some (t', o)) (k : (∀ h', kR h' t' s → kE o Q h')) : zz_J zp_P zt_tf zt_fd X d zm_2 7 [(0, .ref 0), (1, .int x1), (2, .int x2)] [] h Q := by
  unfold cf_2_7 at hf
  obtain ⟨e0, hf⟩ := ko_if hf
  exact cb_2_7 hR e0 (fun hR => hrc0 hR hf k)
def cf_2_3 (N : Nat) (X : Nat → Option zz_C) (rc : Nat → Int32 → Int32 → cS → kO) (x1 : Int32) (x2 : Int32) (t : cS) : kO := if x2 < 0 then cf_2_36 N X  t else cf_2_7 N X rc x1 x2 t
theorem cr_2_3 {X : Nat → Option zz_C} {s : mS} {N : Nat} {d : Nat} (hd : 0 ≤ d) {rc : Nat → Int32 → Int32 → cS → kO} (hrc0 : ∀ {Q : zz_O → zz_H → Prop} {x1 : Int32} {x2 : Int32} {h : zz_H} {t t' : cS} {o : kY}, kR h t s → rc 0 x1 x2 t = some (t', o) → (∀ h', kR h' t' s → kE o Q h') → zz_J zp_P zt_tf zt_fd X d zm_2 3 [(0, .ref 0), (1, .int x1), (2, .int x2)] [] h Q) {Q : zz_O → zz_H → Prop} {x1 : Int32} {x2 : Int32} {h : zz_H} {t t' : cS} {o : kY} (hR : kR h t s) (hf : cf_2_3 N X rc x1 x2 t = some (t', o)) (k : (∀ h', kR h' t' s → kE o Q h')) : zz_J zp_P zt_tf zt_fd X d zm_2 3 [(0, .ref 0), (1, .int x1), (2, .int x2)] [] h Q := by
  unfold cf_2_3 at hf
  refine cb_2_3 hR  (fun c {h} hR => ?_) (fun c {h} hR => ?_)
  · rw [if_pos c] at hf
    exact cr_2_36 hd hR hf k
  · rw [if_neg c] at hf
    exact cr_2_7 hd hrc0 hR hf k
def cf_2_L1 (N : Nat) (X : Nat → Option zz_C) : Nat → Nat → Int32 → Int32 → cS → kO
  | 0, _, _, _, _ => none
  | n + 1, l, x1, x2, t => if l = 0 then cf_2_3 N X (cf_2_L1 N X n) x1 x2 t else none
theorem cr_2_L1 {X : Nat → Option zz_C} {s : mS} {N : Nat} {d : Nat} (hd : 0 ≤ d) : ∀ n : Nat, (∀ {Q : zz_O → zz_H → Prop} {x1 : Int32} {x2 : Int32} {h : zz_H} {t t' : cS} {o : kY}, kR h t s → cf_2_L1 N X n 0 x1 x2 t = some (t', o) → (∀ h', kR h' t' s → kE o Q h') → zz_J zp_P zt_tf zt_fd X d zm_2 3 [(0, .ref 0), (1, .int x1), (2, .int x2)] [] h Q) := by
  intro n
  induction n with
  | zero => exact (fun _ hf _ => by cases hf)
  | succ n ih =>
    have h0 := @ih
    intro Q _ _ h t t' o hR hf k
    unfold cf_2_L1 at hf
    rw [if_pos rfl] at hf
    exact cr_2_3 hd h0 hR hf k
def cf_2_0 (N : Nat) (X : Nat → Option zz_C) (x1 : Int32) (t : cS) : kO := cf_2_L1 N X N 0 x1 24 t
theorem cr_2_0 {X : Nat → Option zz_C} {s : mS} {N : Nat} {d : Nat} (hd : 0 ≤ d) {Q : zz_O → zz_H → Prop} {x1 : Int32} {h : zz_H} {t t' : cS} {o : kY} (hR : kR h t s) (hf : cf_2_0 N X x1 t = some (t', o)) (k : (∀ h', kR h' t' s → kE o Q h')) : zz_J zp_P zt_tf zt_fd X d zm_2 0 [(0, .ref 0), (1, .int x1)] [] h Q := by
  unfold cf_2_0 at hf
  exact cb_2_0 hR  (fun hR => cr_2_L1 hd N hR hf k)
/-- tapeFour -/
def cf_2 (N : Nat) (X : Nat → Option zz_C) (x1 : Int32) (t : cS) : kO := cf_2_0 N X x1 t
theorem cr_2 {X : Nat → Option zz_C} {s : mS} {N : Nat} {d : Nat} (hd : 0 ≤ d) {Q : zz_O → zz_H → Prop} {x1 : Int32} {h : zz_H} {t t' : cS} {o : kY} (hR : kR h t s) (hf : cf_2 N X x1 t = some (t', o)) (k : ∀ h', kR h' t' s → kE o Q h') : zz_J zp_P zt_tf zt_fd X d zm_2 0 [(0, .ref 0), (1, .int x1)] [] h Q := by
  unfold cf_2 at hf
  exact zz_J.weak (cr_2_0 hd hR hf k) rfl ⟨rfl, rfl, trivial⟩
/-! yX12_feed (IIIII)I -/
theorem cb_1_0 {X : Nat → Option zz_C} {h : zz_H} {t : cS} {s : mS} {d : Nat} {Q : zz_O → zz_H → Prop} {x1 : Int32} {x2 : Int32} {x3 : Int32} {x4 : Int32} {x5 : Int32} (hR : kR h t s) (k1 : ((kI t 0 1) + 20) ≤ 1620 → (∀ {h : zz_H}, kR h t s → zz_J zp_P zt_tf zt_fd X d zm_1 15 [(0, .ref 0), (1, .int x1), (2, .int x2), (3, .int x3), (4, .int x4), (5, .int x5)] [] h Q)) (k2 : ¬ ((kI t 0 1) + 20) ≤ 1620 → (∀ {h : zz_H}, kR h t s → zz_J zp_P zt_tf zt_fd X d zm_1 13 [] [] h Q)) : zz_J zp_P zt_tf zt_fd X d zm_1 0 [(0, .ref 0), (1, .int x1), (2, .int x2), (3, .int x3), (4, .int x4), (5, .int x5)] [] h Q := by
  refine zz_J.n 1 rfl rfl rfl ?_
  refine zz_J.g 4 rfl (hR.gv (v := .int (kI t 0 1)) ko_0 (by decide) rfl) rfl ?_
  refine zz_J.c 6 (.int 20) rfl rfl rfl rfl ?_
  refine zz_J.n 7 rfl rfl rfl ?_
  refine zz_J.c 10 (.int 1620) rfl rfl rfl rfl ?_
  refine zz_J.b2 15 13 (A := ((kI t 0 1) + 20) ≤ 1620) rfl rfl (by decide) rfl rfl (fun c => ?_) (fun c => ?_)
  · exact zz_J.weak (k1 c hR) rfl ⟨rfl, rfl, rfl, rfl, rfl, rfl, trivial⟩
  · exact zz_J.weak (k2 c hR) rfl trivial
theorem cb_1_13 {X : Nat → Option zz_C} {h : zz_H} {t : cS} {s : mS} {d : Nat} {Q : zz_O → zz_H → Prop}  (hR : kR h t s) (k : ∀ {h : zz_H}, kR h t s → Q (.inl (some (.int (-1)))) h) : zz_J zp_P zt_tf zt_fd X d zm_1 13 [] [] h Q := by
  refine zz_J.c 14 (.int (-1)) rfl rfl rfl rfl ?_
  refine zz_J.ret rfl rfl rfl ?_
  exact k hR
theorem cb_1_15 {X : Nat → Option zz_C} {h : zz_H} {t : cS} {s : mS} {d : Nat} {Q : zz_O → zz_H → Prop} {x1 : Int32} {x2 : Int32} {x3 : Int32} {x4 : Int32} {x5 : Int32} (hR : kR h t s) (k1 : ((kI t 0 1) + 20) ≤ (Int32.ofNat (kA t 1).1) → (∀ {h : zz_H}, kR h t s → zz_J zp_P zt_tf zt_fd X d zm_1 54 [(0, .ref 0), (1, .int x1), (2, .int x2), (3, .int x3), (4, .int x4), (5, .int x5)] [] h Q)) (k2 : ¬ ((kI t 0 1) + 20) ≤ (Int32.ofNat (kA t 1).1) → (∀ {h : zz_H}, kR h t s → zz_J zp_P zt_tf zt_fd X d zm_1 30 [(0, .ref 0), (1, .int x1), (2, .int x2), (3, .int x3), (4, .int x4), (5, .int x5)] [] h Q)) : zz_J zp_P zt_tf zt_fd X d zm_1 15 [(0, .ref 0), (1, .int x1), (2, .int x2), (3, .int x3), (4, .int x4), (5, .int x5)] [] h Q := by
  refine zz_J.n 16 rfl rfl rfl ?_
  refine zz_J.g 19 rfl (hR.gv (v := .int (kI t 0 1)) ko_0 (by decide) rfl) rfl ?_
  refine zz_J.c 21 (.int 20) rfl rfl rfl rfl ?_
  refine zz_J.n 22 rfl rfl rfl ?_
  refine zz_J.n 23 rfl rfl rfl ?_
  refine zz_J.g 26 rfl (hR.gv (v := .ref (kD t 1)) ko_0 (by decide) rfl) rfl ?_
  refine zz_J.ln 27 rfl (hR.ln (w := (Int32.ofNat (kA t 1).1)) ka_1 rfl (by decide) rfl) rfl ?_
  refine zz_J.b2 54 30 (A := ((kI t 0 1) + 20) ≤ (Int32.ofNat (kA t 1).1)) rfl rfl (by decide) rfl rfl (fun c => ?_) (fun c => ?_)
  · exact zz_J.weak (k1 c hR) rfl ⟨rfl, rfl, rfl, rfl, rfl, rfl, trivial⟩
  · exact zz_J.weak (k2 c hR) rfl ⟨rfl, rfl, rfl, rfl, rfl, rfl, trivial⟩
theorem cb_1_30 {X : Nat → Option zz_C} {h : zz_H} {t : cS} {s : mS} {d : Nat} {Q : zz_O → zz_H → Prop} {x1 : Int32} {x2 : Int32} {x3 : Int32} {x4 : Int32} {x5 : Int32} (hR : kR h t s) (e0 : ¬ (if 1620 < ((2 * (Int32.ofNat (kA t 1).1)) : Int32) then 1620 else (2 * (Int32.ofNat (kA t 1).1))) < 0 ∧ (Int32.toNatClampNeg (if 1620 < ((2 * (Int32.ofNat (kA t 1).1)) : Int32) then 1620 else (2 * (Int32.ofNat (kA t 1).1)))) ≤ 1000000 ∧ (kA t 1).1 ≤ 1000000 ∧ ¬ (if 1620 < ((2 * (Int32.ofNat (kA t 1).1)) : Int32) then 1620 else (2 * (Int32.ofNat (kA t 1).1))) = Int32.ofNat (kA t 1).1 ∧ (kN t) + 1 < zz_out ∧ zz_bts (kA t 1).2 0 (Nat.min (kA t 1).1 (Int32.toNatClampNeg (if 1620 < ((2 * (Int32.ofNat (kA t 1).1)) : Int32) then 1620 else (2 * (Int32.ofNat (kA t 1).1))))) = true) (k : ∀ {h : zz_H}, kR h (jMv (jNI t 3 (Int32.toNatClampNeg (if 1620 < ((2 * (Int32.ofNat (kA t 1).1)) : Int32) then 1620 else (2 * (Int32.ofNat (kA t 1).1)))) (kcp 0 (kA t 1).2 (Nat.min (kA t 1).1 (Int32.toNatClampNeg (if 1620 < ((2 * (Int32.ofNat (kA t 1).1)) : Int32) then 1620 else (2 * (Int32.ofNat (kA t 1).1))))))) 1) s → zz_J zp_P zt_tf zt_fd X (d + 9) zm_1 54 [(0, .ref 0), (1, .int x1), (2, .int x2), (3, .int x3), (4, .int x4), (5, .int x5)] [] h Q) : zz_J zp_P zt_tf zt_fd X (d + 9) zm_1 30 [(0, .ref 0), (1, .int x1), (2, .int x2), (3, .int x3), (4, .int x4), (5, .int x5)] [] h Q := by
  refine zz_J.n 31 rfl rfl rfl ?_
  refine zz_J.n 32 rfl rfl rfl ?_
  refine zz_J.g 35 rfl (hR.gv (v := .ref (kD t 1)) ko_0 (by decide) rfl) rfl ?_
  refine zz_J.c 36 (.int 2) rfl rfl rfl rfl ?_
  refine zz_J.n 37 rfl rfl rfl ?_
  refine zz_J.g 40 rfl (hR.gv (v := .ref (kD t 1)) ko_0 (by decide) rfl) rfl ?_
  refine zz_J.ln 41 rfl (hR.ln (w := (Int32.ofNat (kA t 1).1)) ka_1 rfl (by decide) rfl) rfl ?_
  refine zz_J.n 42 rfl rfl rfl ?_
  refine zz_J.c 45 (.int 1620) rfl rfl rfl rfl ?_
  refine zz_J.spec 48 rfl rfl (by decide) rfl rfl rfl ?_
  refine kq_copyb 51 rfl rfl hR (by omega) ka_1 rfl e0 (Nat.le_of_ble_eq_true rfl) (fun {h} hR => ?_)
  obtain ⟨h1, eq1, hR⟩ := hR.pMvb (k := 1) rfl (by decide) ko_0 (kpa_0_0) (Nat.le_of_ble_eq_true rfl) rfl rfl rfl ka_1
  refine zz_J.pv 54 rfl eq1 rfl ?_
  clear eq1
  exact zz_J.weak (k hR) rfl ⟨rfl, rfl, rfl, rfl, rfl, rfl, trivial⟩
theorem cb_1_54 {X : Nat → Option zz_C} {h : zz_H} {t : cS} {s : mS} {d : Nat} {Q : zz_O → zz_H → Prop} {x1 : Int32} {x2 : Int32} {x3 : Int32} {x4 : Int32} {x5 : Int32} (hR : kR h t s) (k : ∀ {h : zz_H}, kR h t s → zz_J zp_P zt_tf zt_fd X d zm_2 0 [(0, .ref 0), (1, .int x1)] [] h (zz_after 12 Q (fun v h' => zz_J zp_P zt_tf zt_fd X (d + 1) zm_1 59 [(0, .ref 0), (2, .int x2), (3, .int x3), (4, .int x4), (5, .int x5)] (v.toList ++ []) h' Q))) : zz_J zp_P zt_tf zt_fd X (d + 1) zm_1 54 [(0, .ref 0), (1, .int x1), (2, .int x2), (3, .int x3), (4, .int x4), (5, .int x5)] [] h Q := by
  refine zz_J.n 55 rfl rfl rfl ?_
  refine zz_J.n 56 rfl rfl rfl ?_
  refine zz_J.cv 59 (as := []) rfl rfl (hR.clO ko_0 (by decide) (by decide)) (by decide) (Nat.le_of_ble_eq_true rfl) (Nat.le_of_ble_eq_true rfl) rfl (Nat.le_of_ble_eq_true rfl) rfl ?_
  refine zz_J.mono (k hR) ?_
  intro o h' hE
  cases o with
  | inl v => exact zz_J.weak hE rfl ⟨rfl, rfl, rfl, rfl, rfl, trivial⟩
  | inr q => exact hE
theorem cb_1_59 {X : Nat → Option zz_C} {h : zz_H} {t : cS} {s : mS} {d : Nat} {Q : zz_O → zz_H → Prop} {x2 : Int32} {x3 : Int32} {x4 : Int32} {x5 : Int32} (hR : kR h t s) (k : ∀ {h : zz_H}, kR h t s → zz_J zp_P zt_tf zt_fd X d zm_2 0 [(0, .ref 0), (1, .int x2)] [] h (zz_after 12 Q (fun v h' => zz_J zp_P zt_tf zt_fd X (d + 1) zm_1 64 [(0, .ref 0), (3, .int x3), (4, .int x4), (5, .int x5)] (v.toList ++ []) h' Q))) : zz_J zp_P zt_tf zt_fd X (d + 1) zm_1 59 [(0, .ref 0), (2, .int x2), (3, .int x3), (4, .int x4), (5, .int x5)] [] h Q := by
  refine zz_J.n 60 rfl rfl rfl ?_
  refine zz_J.n 61 rfl rfl rfl ?_
  refine zz_J.cv 64 (as := []) rfl rfl (hR.clO ko_0 (by decide) (by decide)) (by decide) (Nat.le_of_ble_eq_true rfl) (Nat.le_of_ble_eq_true rfl) rfl (Nat.le_of_ble_eq_true rfl) rfl ?_
  refine zz_J.mono (k hR) ?_
  intro o h' hE
  cases o with
  | inl v => exact zz_J.weak hE rfl ⟨rfl, rfl, rfl, rfl, trivial⟩
  | inr q => exact hE
theorem cb_1_64 {X : Nat → Option zz_C} {h : zz_H} {t : cS} {s : mS} {d : Nat} {Q : zz_O → zz_H → Prop} {x3 : Int32} {x4 : Int32} {x5 : Int32} (hR : kR h t s) (k : ∀ {h : zz_H}, kR h t s → zz_J zp_P zt_tf zt_fd X d zm_2 0 [(0, .ref 0), (1, .int x3)] [] h (zz_after 12 Q (fun v h' => zz_J zp_P zt_tf zt_fd X (d + 1) zm_1 69 [(0, .ref 0), (4, .int x4), (5, .int x5)] (v.toList ++ []) h' Q))) : zz_J zp_P zt_tf zt_fd X (d + 1) zm_1 64 [(0, .ref 0), (3, .int x3), (4, .int x4), (5, .int x5)] [] h Q := by
  refine zz_J.n 65 rfl rfl rfl ?_
  refine zz_J.n 66 rfl rfl rfl ?_
  refine zz_J.cv 69 (as := []) rfl rfl (hR.clO ko_0 (by decide) (by decide)) (by decide) (Nat.le_of_ble_eq_true rfl) (Nat.le_of_ble_eq_true rfl) rfl (Nat.le_of_ble_eq_true rfl) rfl ?_
  refine zz_J.mono (k hR) ?_
  intro o h' hE
  cases o with
  | inl v => exact zz_J.weak hE rfl ⟨rfl, rfl, rfl, trivial⟩
  | inr q => exact hE
theorem cb_1_69 {X : Nat → Option zz_C} {h : zz_H} {t : cS} {s : mS} {d : Nat} {Q : zz_O → zz_H → Prop} {x4 : Int32} {x5 : Int32} (hR : kR h t s) (k : ∀ {h : zz_H}, kR h t s → zz_J zp_P zt_tf zt_fd X d zm_2 0 [(0, .ref 0), (1, .int x4)] [] h (zz_after 12 Q (fun v h' => zz_J zp_P zt_tf zt_fd X (d + 1) zm_1 75 [(0, .ref 0), (5, .int x5)] (v.toList ++ []) h' Q))) : zz_J zp_P zt_tf zt_fd X (d + 1) zm_1 69 [(0, .ref 0), (4, .int x4), (5, .int x5)] [] h Q := by
  refine zz_J.n 70 rfl rfl rfl ?_
  refine zz_J.n 72 rfl rfl rfl ?_
  refine zz_J.cv 75 (as := []) rfl rfl (hR.clO ko_0 (by decide) (by decide)) (by decide) (Nat.le_of_ble_eq_true rfl) (Nat.le_of_ble_eq_true rfl) rfl (Nat.le_of_ble_eq_true rfl) rfl ?_
  refine zz_J.mono (k hR) ?_
  intro o h' hE
  cases o with
  | inl v => exact zz_J.weak hE rfl ⟨rfl, rfl, trivial⟩
  | inr q => exact hE
theorem cb_1_75 {X : Nat → Option zz_C} {h : zz_H} {t : cS} {s : mS} {d : Nat} {Q : zz_O → zz_H → Prop} {x5 : Int32} (hR : kR h t s) (k : ∀ {h : zz_H}, kR h t s → zz_J zp_P zt_tf zt_fd X d zm_2 0 [(0, .ref 0), (1, .int x5)] [] h (zz_after 12 Q (fun v h' => zz_J zp_P zt_tf zt_fd X (d + 1) zm_1 81 [(0, .ref 0)] (v.toList ++ []) h' Q))) : zz_J zp_P zt_tf zt_fd X (d + 1) zm_1 75 [(0, .ref 0), (5, .int x5)] [] h Q := by
  refine zz_J.n 76 rfl rfl rfl ?_
  refine zz_J.n 78 rfl rfl rfl ?_
  refine zz_J.cv 81 (as := []) rfl rfl (hR.clO ko_0 (by decide) (by decide)) (by decide) (Nat.le_of_ble_eq_true rfl) (Nat.le_of_ble_eq_true rfl) rfl (Nat.le_of_ble_eq_true rfl) rfl ?_
  refine zz_J.mono (k hR) ?_
  intro o h' hE
  cases o with
  | inl v => exact zz_J.weak hE rfl ⟨rfl, trivial⟩
  | inr q => exact hE
theorem cb_1_81 {X : Nat → Option zz_C} {h : zz_H} {t : cS} {s : mS} {d : Nat} {Q : zz_O → zz_H → Prop}  (hR : kR h t s) (k : ∀ {h : zz_H}, kR h t s → Q (.inl (some (.int (kI t 0 1)))) h) : zz_J zp_P zt_tf zt_fd X d zm_1 81 [(0, .ref 0)] [] h Q := by
  refine zz_J.n 82 rfl rfl rfl ?_
  refine zz_J.g 85 rfl (hR.gv (v := .int (kI t 0 1)) ko_0 (by decide) rfl) rfl ?_
  refine zz_J.ret rfl rfl rfl ?_
  exact k hR
def cf_1_81 (N : Nat) (X : Nat → Option zz_C)  (t : cS) : kO := some (t, .inl (some (.int (kI t 0 1))))
theorem cr_1_81 {X : Nat → Option zz_C} {s : mS} {N : Nat} {d : Nat} (hd : 9 ≤ d) {Q : zz_O → zz_H → Prop}  {h : zz_H} {t t' : cS} {o : kY} (hR : kR h t s) (hf : cf_1_81 N X  t = some (t', o)) (k : (∀ h', kR h' t' s → kE o Q h')) : zz_J zp_P zt_tf zt_fd X d zm_1 81 [(0, .ref 0)] [] h Q := by
  unfold cf_1_81 at hf
  cases hf
  exact cb_1_81 hR  (fun {h} hR => k h hR)
def cf_1_75 (N : Nat) (X : Nat → Option zz_C) (x5 : Int32) (t : cS) : kO := ko_call 12 (cf_2 N X x5 t) (fun g1 v1 => co_v v1 (cf_1_81 N X  g1))
theorem cr_1_75 {X : Nat → Option zz_C} {s : mS} {N : Nat} {d : Nat} (hd : 9 ≤ d) {Q : zz_O → zz_H → Prop} {x5 : Int32} {h : zz_H} {t t' : cS} {o : kY} (hR : kR h t s) (hf : cf_1_75 N X x5 t = some (t', o)) (k : (∀ h', kR h' t' s → kE o Q h')) : zz_J zp_P zt_tf zt_fd X d zm_1 75 [(0, .ref 0), (5, .int x5)] [] h Q := by
  unfold cf_1_75 at hf
  obtain ⟨d', rfl⟩ : ∃ d', d = d' + 1 := ⟨d - 1, by omega⟩
  refine cb_1_75 hR  (fun {h} hR => ?_)
  rcases ko_call_ok hf with ⟨g1, v1, er, hf⟩ | ⟨g1, er, hq⟩
  · obtain ⟨hv, hf2⟩ := co_v_ok hf
    clear hf
    have hf := hf2
    clear hf2
    subst hv
    refine cr_2 (by omega) hR er (fun h hR => ?_)
    exact cr_1_81 hd hR hf k
  · refine cr_2 (by omega) hR er (fun h hR => ?_)
    exact ko_thrown hq hR k
def cf_1_69 (N : Nat) (X : Nat → Option zz_C) (x4 : Int32) (x5 : Int32) (t : cS) : kO := ko_call 12 (cf_2 N X x4 t) (fun g1 v1 => co_v v1 (cf_1_75 N X x5 g1))
theorem cr_1_69 {X : Nat → Option zz_C} {s : mS} {N : Nat} {d : Nat} (hd : 9 ≤ d) {Q : zz_O → zz_H → Prop} {x4 : Int32} {x5 : Int32} {h : zz_H} {t t' : cS} {o : kY} (hR : kR h t s) (hf : cf_1_69 N X x4 x5 t = some (t', o)) (k : (∀ h', kR h' t' s → kE o Q h')) : zz_J zp_P zt_tf zt_fd X d zm_1 69 [(0, .ref 0), (4, .int x4), (5, .int x5)] [] h Q := by
  unfold cf_1_69 at hf
  obtain ⟨d', rfl⟩ : ∃ d', d = d' + 1 := ⟨d - 1, by omega⟩
  refine cb_1_69 hR  (fun {h} hR => ?_)
  rcases ko_call_ok hf with ⟨g1, v1, er, hf⟩ | ⟨g1, er, hq⟩
  · obtain ⟨hv, hf2⟩ := co_v_ok hf
    clear hf
    have hf := hf2
    clear hf2
    subst hv
    refine cr_2 (by omega) hR er (fun h hR => ?_)
    exact cr_1_75 hd hR hf k
  · refine cr_2 (by omega) hR er (fun h hR => ?_)
    exact ko_thrown hq hR k
def cf_1_64 (N : Nat) (X : Nat → Option zz_C) (x3 : Int32) (x4 : Int32) (x5 : Int32) (t : cS) : kO := ko_call 12 (cf_2 N X x3 t) (fun g1 v1 => co_v v1 (cf_1_69 N X x4 x5 g1))
theorem cr_1_64 {X : Nat → Option zz_C} {s : mS} {N : Nat} {d : Nat} (hd : 9 ≤ d) {Q : zz_O → zz_H → Prop} {x3 : Int32} {x4 : Int32} {x5 : Int32} {h : zz_H} {t t' : cS} {o : kY} (hR : kR h t s) (hf : cf_1_64 N X x3 x4 x5 t = some (t', o)) (k : (∀ h', kR h' t' s → kE o Q h')) : zz_J zp_P zt_tf zt_fd X d zm_1 64 [(0, .ref 0), (3, .int x3), (4, .int x4), (5, .int x5)] [] h Q := by
  unfold cf_1_64 at hf
  obtain ⟨d', rfl⟩ : ∃ d', d = d' + 1 := ⟨d - 1, by omega⟩
  refine cb_1_64 hR  (fun {h} hR => ?_)
  rcases ko_call_ok hf with ⟨g1, v1, er, hf⟩ | ⟨g1, er, hq⟩
  · obtain ⟨hv, hf2⟩ := co_v_ok hf
    clear hf
    have hf := hf2
    clear hf2
    subst hv
    refine cr_2 (by omega) hR er (fun h hR => ?_)
    exact cr_1_69 hd hR hf k
  · refine cr_2 (by omega) hR er (fun h hR => ?_)
    exact ko_thrown hq hR k
def cf_1_59 (N : Nat) (X : Nat → Option zz_C) (x2 : Int32) (x3 : Int32) (x4 : Int32) (x5 : Int32) (t : cS) : kO := ko_call 12 (cf_2 N X x2 t) (fun g1 v1 => co_v v1 (cf_1_64 N X x3 x4 x5 g1))
theorem cr_1_59 {X : Nat → Option zz_C} {s : mS} {N : Nat} {d : Nat} (hd : 9 ≤ d) {Q : zz_O → zz_H → Prop} {x2 : Int32} {x3 : Int32} {x4 : Int32} {x5 : Int32} {h : zz_H} {t t' : cS} {o : kY} (hR : kR h t s) (hf : cf_1_59 N X x2 x3 x4 x5 t = some (t', o)) (k : (∀ h', kR h' t' s → kE o Q h')) : zz_J zp_P zt_tf zt_fd X d zm_1 59 [(0, .ref 0), (2, .int x2), (3, .int x3), (4, .int x4), (5, .int x5)] [] h Q := by
  unfold cf_1_59 at hf
  obtain ⟨d', rfl⟩ : ∃ d', d = d' + 1 := ⟨d - 1, by omega⟩
  refine cb_1_59 hR  (fun {h} hR => ?_)
  rcases ko_call_ok hf with ⟨g1, v1, er, hf⟩ | ⟨g1, er, hq⟩
  · obtain ⟨hv, hf2⟩ := co_v_ok hf
    clear hf
    have hf := hf2
    clear hf2
    subst hv
    refine cr_2 (by omega) hR er (fun h hR => ?_)
    exact cr_1_64 hd hR hf k
  · refine cr_2 (by omega) hR er (fun h hR => ?_)
    exact ko_thrown hq hR k
def cf_1_54 (N : Nat) (X : Nat → Option zz_C) (x1 : Int32) (x2 : Int32) (x3 : Int32) (x4 : Int32) (x5 : Int32) (t : cS) : kO := ko_call 12 (cf_2 N X x1 t) (fun g1 v1 => co_v v1 (cf_1_59 N X x2 x3 x4 x5 g1))
theorem cr_1_54 {X : Nat → Option zz_C} {s : mS} {N : Nat} {d : Nat} (hd : 9 ≤ d) {Q : zz_O → zz_H → Prop} {x1 : Int32} {x2 : Int32} {x3 : Int32} {x4 : Int32} {x5 : Int32} {h : zz_H} {t t' : cS} {o : kY} (hR : kR h t s) (hf : cf_1_54 N X x1 x2 x3 x4 x5 t = some (t', o)) (k : (∀ h', kR h' t' s → kE o Q h')) : zz_J zp_P zt_tf zt_fd X d zm_1 54 [(0, .ref 0), (1, .int x1), (2, .int x2), (3, .int x3), (4, .int x4), (5, .int x5)] [] h Q := by
  unfold cf_1_54 at hf
  obtain ⟨d', rfl⟩ : ∃ d', d = d' + 1 := ⟨d - 1, by omega⟩
  refine cb_1_54 hR  (fun {h} hR => ?_)
  rcases ko_call_ok hf with ⟨g1, v1, er, hf⟩ | ⟨g1, er, hq⟩
  · obtain ⟨hv, hf2⟩ := co_v_ok hf
    clear hf
    have hf := hf2
    clear hf2
    subst hv
    refine cr_2 (by omega) hR er (fun h hR => ?_)
    exact cr_1_59 hd hR hf k
  · refine cr_2 (by omega) hR er (fun h hR => ?_)
    exact ko_thrown hq hR k
def cf_1_30 (N : Nat) (X : Nat → Option zz_C) (x1 : Int32) (x2 : Int32) (x3 : Int32) (x4 : Int32) (x5 : Int32) (t : cS) : kO := if ¬ (if 1620 < ((2 * (Int32.ofNat (kA t 1).1)) : Int32) then 1620 else (2 * (Int32.ofNat (kA t 1).1))) < 0 ∧ (Int32.toNatClampNeg (if 1620 < ((2 * (Int32.ofNat (kA t 1).1)) : Int32) then 1620 else (2 * (Int32.ofNat (kA t 1).1)))) ≤ 1000000 ∧ (kA t 1).1 ≤ 1000000 ∧ ¬ (if 1620 < ((2 * (Int32.ofNat (kA t 1).1)) : Int32) then 1620 else (2 * (Int32.ofNat (kA t 1).1))) = Int32.ofNat (kA t 1).1 ∧ (kN t) + 1 < zz_out ∧ zz_bts (kA t 1).2 0 (Nat.min (kA t 1).1 (Int32.toNatClampNeg (if 1620 < ((2 * (Int32.ofNat (kA t 1).1)) : Int32) then 1620 else (2 * (Int32.ofNat (kA t 1).1))))) = true then (cf_1_54 N X x1 x2 x3 x4 x5 (jMv (jNI t 3 (Int32.toNatClampNeg (if 1620 < ((2 * (Int32.ofNat (kA t 1).1)) : Int32) then 1620 else (2 * (Int32.ofNat (kA t 1).1)))) (kcp 0 (kA t 1).2 (Nat.min (kA t 1).1 (Int32.toNatClampNeg (if 1620 < ((2 * (Int32.ofNat (kA t 1).1)) : Int32) then 1620 else (2 * (Int32.ofNat (kA t 1).1))))))) 1)) else none
theorem cr_1_30 {X : Nat → Option zz_C} {s : mS} {N : Nat} {d : Nat} (hd : 9 ≤ d) {Q : zz_O → zz_H → Prop} {x1 : Int32} {x2 : Int32} {x3 : Int32} {x4 : Int32} {x5 : Int32} {h : zz_H} {t t' : cS} {o : kY} (hR : kR h t s) (hf : cf_1_30 N X x1 x2 x3 x4 x5 t = some (t', o)) (k : (∀ h', kR h' t' s → kE o Q h')) : zz_J zp_P zt_tf zt_fd X d zm_1 30 [(0, .ref 0), (1, .int x1), (2, .int x2), (3, .int x3), (4, .int x4), (5, .int x5)] [] h Q := by
  unfold cf_1_30 at hf
  obtain ⟨e0, hf⟩ := ko_if hf
  obtain ⟨d', rfl⟩ : ∃ d', d = d' + 9 := ⟨d - 9, by omega⟩
  exact cb_1_30 hR e0 (fun hR => cr_1_54 hd hR hf k)
def cf_1_15 (N : Nat) (X : Nat → Option zz_C) (x1 : Int32) (x2 : Int32) (x3 : Int32) (x4 : Int32) (x5 : Int32) (t : cS) : kO := if ((kI t 0 1) + 20) ≤ (Int32.ofNat (kA t 1).1) then cf_1_54 N X x1 x2 x3 x4 x5 t else cf_1_30 N X x1 x2 x3 x4 x5 t
theorem cr_1_15 {X : Nat → Option zz_C} {s : mS} {N : Nat} {d : Nat} (hd : 9 ≤ d) {Q : zz_O → zz_H → Prop} {x1 : Int32} {x2 : Int32} {x3 : Int32} {x4 : Int32} {x5 : Int32} {h : zz_H} {t t' : cS} {o : kY} (hR : kR h t s) (hf : cf_1_15 N X x1 x2 x3 x4 x5 t = some (t', o)) (k : (∀ h', kR h' t' s → kE o Q h')) : zz_J zp_P zt_tf zt_fd X d zm_1 15 [(0, .ref 0), (1, .int x1), (2, .int x2), (3, .int x3), (4, .int x4), (5, .int x5)] [] h Q := by
  unfold cf_1_15 at hf
  refine cb_1_15 hR  (fun c {h} hR => ?_) (fun c {h} hR => ?_)
  · rw [if_pos c] at hf
    exact cr_1_54 hd hR hf k
  · rw [if_neg c] at hf
    exact cr_1_30 hd hR hf k
def cf_1_13 (N : Nat) (X : Nat → Option zz_C)  (t : cS) : kO := some (t, .inl (some (.int (-1))))
theorem cr_1_13 {X : Nat → Option zz_C} {s : mS} {N : Nat} {d : Nat} (hd : 9 ≤ d) {Q : zz_O → zz_H → Prop}  {h : zz_H} {t t' : cS} {o : kY} (hR : kR h t s) (hf : cf_1_13 N X  t = some (t', o)) (k : (∀ h', kR h' t' s → kE o Q h')) : zz_J zp_P zt_tf zt_fd X d zm_1 13 [] [] h Q := by
  unfold cf_1_13 at hf
  cases hf
  exact cb_1_13 hR  (fun {h} hR => k h hR)
def cf_1_0 (N : Nat) (X : Nat → Option zz_C) (x1 : Int32) (x2 : Int32) (x3 : Int32) (x4 : Int32) (x5 : Int32) (t : cS) : kO := if ((kI t 0 1) + 20) ≤ 1620 then cf_1_15 N X x1 x2 x3 x4 x5 t else cf_1_13 N X  t
theorem cr_1_0 {X : Nat → Option zz_C} {s : mS} {N : Nat} {d : Nat} (hd : 9 ≤ d) {Q : zz_O → zz_H → Prop} {x1 : Int32} {x2 : Int32} {x3 : Int32} {x4 : Int32} {x5 : Int32} {h : zz_H} {t t' : cS} {o : kY} (hR : kR h t s) (hf : cf_1_0 N X x1 x2 x3 x4 x5 t = some (t', o)) (k : (∀ h', kR h' t' s → kE o Q h')) : zz_J zp_P zt_tf zt_fd X d zm_1 0 [(0, .ref 0), (1, .int x1), (2, .int x2), (3, .int x3), (4, .int x4), (5, .int x5)] [] h Q := by
  unfold cf_1_0 at hf
  refine cb_1_0 hR  (fun c {h} hR => ?_) (fun c {h} hR => ?_)
  · rw [if_pos c] at hf
    exact cr_1_15 hd hR hf k
  · rw [if_neg c] at hf
    exact cr_1_13 hd hR hf k
/-- feed -/
def cf_1 (N : Nat) (X : Nat → Option zz_C) (x1 : Int32) (x2 : Int32) (x3 : Int32) (x4 : Int32) (x5 : Int32) (t : cS) : kO := cf_1_0 N X x1 x2 x3 x4 x5 t
theorem cr_1 {X : Nat → Option zz_C} {s : mS} {N : Nat} {d : Nat} (hd : 9 ≤ d) {Q : zz_O → zz_H → Prop} {x1 : Int32} {x2 : Int32} {x3 : Int32} {x4 : Int32} {x5 : Int32} {h : zz_H} {t t' : cS} {o : kY} (hR : kR h t s) (hf : cf_1 N X x1 x2 x3 x4 x5 t = some (t', o)) (k : ∀ h', kR h' t' s → kE o Q h') : zz_J zp_P zt_tf zt_fd X d zm_1 0 [(0, .ref 0), (1, .int x1), (2, .int x2), (3, .int x3), (4, .int x4), (5, .int x5)] [] h Q := by
  unfold cf_1 at hf
  exact zz_J.weak (cr_1_0 hd hR hf k) rfl ⟨rfl, rfl, rfl, rfl, rfl, rfl, trivial⟩
/-! yX6_functions ()I -/
theorem cb_32_0 {X : Nat → Option zz_C} {h : zz_H} {t : cS} {s : mS} {d : Nat} {Q : zz_O → zz_H → Prop} {x0 : Nat} (hR : kR h t s) (e0 : x0 = 12 ∨ x0 = 21) (k : ∀ {h : zz_H}, kR h t s → Q (.inl (some (.int (kI t x0 4)))) h) : zz_J zp_P zt_tf zt_fd X d zm_32 0 [(0, .ref x0)] [] h Q := by
  refine zz_J.n 1 rfl rfl rfl ?_
  refine zz_J.g 4 rfl (hR.gv (v := .int (kI t x0 4)) (ko_P e0) (by decide) rfl) rfl ?_
  refine zz_J.ret rfl rfl rfl ?_
  exact k hR
def cf_32_0 (N : Nat) (X : Nat → Option zz_C) (x0 : Nat) (t : cS) : kO := if x0 = 12 ∨ x0 = 21 then (some (t, .inl (some (.int (kI t x0 4))))) else none
theorem cr_32_0 {X : Nat → Option zz_C} {s : mS} {N : Nat} {d : Nat} (hd : 0 ≤ d) {Q : zz_O → zz_H → Prop} {x0 : Nat} {h : zz_H} {t t' : cS} {o : kY} (hR : kR h t s) (hf : cf_32_0 N X x0 t = some (t', o)) (k : (∀ h', kR h' t' s → kE o Q h')) : zz_J zp_P zt_tf zt_fd X d zm_32 0 [(0, .ref x0)] [] h Q := by
  unfold cf_32_0 at hf
  obtain ⟨e0, hf⟩ := ko_if hf
  cases hf
  exact cb_32_0 hR e0 (fun {h} hR => k h hR)
/-- functions -/
def cf_32 (N : Nat) (X : Nat → Option zz_C) (x0 : Nat) (t : cS) : kO := cf_32_0 N X x0 t
theorem cr_32 {X : Nat → Option zz_C} {s : mS} {N : Nat} {d : Nat} (hd : 0 ≤ d) {Q : zz_O → zz_H → Prop} {x0 : Nat} {h : zz_H} {t t' : cS} {o : kY} (hR : kR h t s) (hf : cf_32 N X x0 t = some (t', o)) (k : ∀ h', kR h' t' s → kE o Q h') : zz_J zp_P zt_tf zt_fd X d zm_32 0 [(0, .ref x0)] [] h Q := by
  unfold cf_32 at hf
  exact zz_J.weak (cr_32_0 hd hR hf k) rfl ⟨rfl, trivial⟩
/-! yX5_namesShelf (J)Z -/
theorem cb_197_0 {X : Nat → Option zz_C} {h : zz_H} {t : cS} {s : mS} {d : Nat} {Q : zz_O → zz_H → Prop} {x0 : Int64} (hR : kR h t s) (k1 : (lg_cmp x0 1) < 0 → (∀ {h : zz_H}, kR h t s → zz_J zp_P zt_tf zt_fd X d zm_197 18 [] [] h Q)) (k2 : ¬ (lg_cmp x0 1) < 0 → (∀ {h : zz_H}, kR h t s → zz_J zp_P zt_tf zt_fd X d zm_197 6 [(0, .long x0)] [] h Q)) : zz_J zp_P zt_tf zt_fd X d zm_197 0 [(0, .long x0)] [] h Q := by
  refine zz_J.n 1 rfl rfl rfl ?_
  refine zz_J.c 2 (.long 1) rfl rfl rfl rfl ?_
  refine zz_J.n 3 rfl rfl rfl ?_
  refine zz_J.b1 18 6 (A := (lg_cmp x0 1) < 0) rfl rfl (by decide) rfl rfl (fun c => ?_) (fun c => ?_)
  · exact zz_J.weak (k1 c hR) rfl trivial
  · exact zz_J.weak (k2 c hR) rfl ⟨rfl, trivial⟩
theorem cb_197_6 {X : Nat → Option zz_C} {h : zz_H} {t : cS} {s : mS} {d : Nat} {Q : zz_O → zz_H → Prop} {x0 : Int64} (hR : kR h t s) (k1 : 0 < (lg_cmp x0 8) → (∀ {h : zz_H}, kR h t s → zz_J zp_P zt_tf zt_fd X d zm_197 18 [] [] h Q)) (k2 : ¬ 0 < (lg_cmp x0 8) → (∀ {h : zz_H}, kR h t s → zz_J zp_P zt_tf zt_fd X d zm_197 14 [] [] h Q)) : zz_J zp_P zt_tf zt_fd X d zm_197 6 [(0, .long x0)] [] h Q := by
  refine zz_J.n 7 rfl rfl rfl ?_
  refine zz_J.c 10 (.long 8) rfl rfl rfl rfl ?_
  refine zz_J.n 11 rfl rfl rfl ?_
  refine zz_J.b1 18 14 (A := 0 < (lg_cmp x0 8)) rfl rfl (by decide) rfl rfl (fun c => ?_) (fun c => ?_)
  · exact zz_J.weak (k1 c hR) rfl trivial
  · exact zz_J.weak (k2 c hR) rfl trivial
theorem cb_197_14 {X : Nat → Option zz_C} {h : zz_H} {t : cS} {s : mS} {d : Nat} {Q : zz_O → zz_H → Prop}  (hR : kR h t s) (k : ∀ {h : zz_H}, kR h t s → zz_J zp_P zt_tf zt_fd X d zm_197 19 [] [.int 1] h Q) : zz_J zp_P zt_tf zt_fd X d zm_197 14 [] [] h Q := by
  refine zz_J.c 15 (.int 1) rfl rfl rfl rfl ?_
  refine zz_J.n 19 rfl rfl rfl ?_
  exact zz_J.weak (k hR) rfl trivial
theorem cb_197_18 {X : Nat → Option zz_C} {h : zz_H} {t : cS} {s : mS} {d : Nat} {Q : zz_O → zz_H → Prop}  (hR : kR h t s) (k : ∀ {h : zz_H}, kR h t s → zz_J zp_P zt_tf zt_fd X d zm_197 19 [] [.int 0] h Q) : zz_J zp_P zt_tf zt_fd X d zm_197 18 [] [] h Q := by
  refine zz_J.c 19 (.int 0) rfl rfl rfl rfl ?_
  exact zz_J.weak (k hR) rfl trivial
theorem cb_197_19 {X : Nat → Option zz_C} {h : zz_H} {t : cS} {s : mS} {d : Nat} {Q : zz_O → zz_H → Prop} {y0 : Int32} (hR : kR h t s) (k : ∀ {h : zz_H}, kR h t s → Q (.inl (some (.int y0))) h) (rb : zz_reti (some .boolean) y0 = true) : zz_J zp_P zt_tf zt_fd X d zm_197 19 [] [.int y0] h Q := by
  refine zz_J.ret rfl rfl (if_pos ⟨rfl, rb⟩) ?_
  exact k hR
def cf_197_19 (N : Nat) (X : Nat → Option zz_C) (y0 : Int32) (t : cS) : kO := if zz_reti (some .boolean) y0 = true then some (t, .inl (some (.int y0))) else none
theorem cr_197_19 {X : Nat → Option zz_C} {s : mS} {N : Nat} {d : Nat} (hd : 0 ≤ d) {Q : zz_O → zz_H → Prop} {y0 : Int32} {h : zz_H} {t t' : cS} {o : kY} (hR : kR h t s) (hf : cf_197_19 N X y0 t = some (t', o)) (k : (∀ h', kR h' t' s → kE o Q h')) : zz_J zp_P zt_tf zt_fd X d zm_197 19 [] [.int y0] h Q := by
  unfold cf_197_19 at hf
  obtain ⟨rb, hf⟩ := ko_if hf
  cases hf
  exact cb_197_19 hR  (fun {h} hR => k h hR) rb
def cf_197_18 (N : Nat) (X : Nat → Option zz_C)  (t : cS) : kO := cf_197_19 N X 0 t
theorem cr_197_18 {X : Nat → Option zz_C} {s : mS} {N : Nat} {d : Nat} (hd : 0 ≤ d) {Q : zz_O → zz_H → Prop}  {h : zz_H} {t t' : cS} {o : kY} (hR : kR h t s) (hf : cf_197_18 N X  t = some (t', o)) (k : (∀ h', kR h' t' s → kE o Q h')) : zz_J zp_P zt_tf zt_fd X d zm_197 18 [] [] h Q := by
  unfold cf_197_18 at hf
  exact cb_197_18 hR  (fun hR => cr_197_19 hd hR hf k)
def cf_197_14 (N : Nat) (X : Nat → Option zz_C)  (t : cS) : kO := cf_197_19 N X 1 t
theorem cr_197_14 {X : Nat → Option zz_C} {s : mS} {N : Nat} {d : Nat} (hd : 0 ≤ d) {Q : zz_O → zz_H → Prop}  {h : zz_H} {t t' : cS} {o : kY} (hR : kR h t s) (hf : cf_197_14 N X  t = some (t', o)) (k : (∀ h', kR h' t' s → kE o Q h')) : zz_J zp_P zt_tf zt_fd X d zm_197 14 [] [] h Q := by
  unfold cf_197_14 at hf
  exact cb_197_14 hR  (fun hR => cr_197_19 hd hR hf k)
def cf_197_6 (N : Nat) (X : Nat → Option zz_C) (x0 : Int64) (t : cS) : kO := if 0 < (lg_cmp x0 8) then cf_197_18 N X  t else cf_197_14 N X  t
theorem cr_197_6 {X : Nat → Option zz_C} {s : mS} {N : Nat} {d : Nat} (hd : 0 ≤ d) {Q : zz_O → zz_H → Prop} {x0 : Int64} {h : zz_H} {t t' : cS} {o : kY} (hR : kR h t s) (hf : cf_197_6 N X x0 t = some (t', o)) (k : (∀ h', kR h' t' s → kE o Q h')) : zz_J zp_P zt_tf zt_fd X d zm_197 6 [(0, .long x0)] [] h Q := by
  unfold cf_197_6 at hf
  refine cb_197_6 hR  (fun c {h} hR => ?_) (fun c {h} hR => ?_)
  · rw [if_pos c] at hf
    exact cr_197_18 hd hR hf k
  · rw [if_neg c] at hf
    exact cr_197_14 hd hR hf k
def cf_197_0 (N : Nat) (X : Nat → Option zz_C) (x0 : Int64) (t : cS) : kO := if (lg_cmp x0 1) < 0 then cf_197_18 N X  t else cf_197_6 N X x0 t
theorem cr_197_0 {X : Nat → Option zz_C} {s : mS} {N : Nat} {d : Nat} (hd : 0 ≤ d) {Q : zz_O → zz_H → Prop} {x0 : Int64} {h : zz_H} {t t' : cS} {o : kY} (hR : kR h t s) (hf : cf_197_0 N X x0 t = some (t', o)) (k : (∀ h', kR h' t' s → kE o Q h')) : zz_J zp_P zt_tf zt_fd X d zm_197 0 [(0, .long x0)] [] h Q := by
  unfold cf_197_0 at hf
  refine cb_197_0 hR  (fun c {h} hR => ?_) (fun c {h} hR => ?_)
  · rw [if_pos c] at hf
    exact cr_197_18 hd hR hf k
  · rw [if_neg c] at hf
    exact cr_197_6 hd hR hf k
/-- namesShelf -/
def cf_197 (N : Nat) (X : Nat → Option zz_C) (x0 : Int64) (t : cS) : kO := cf_197_0 N X x0 t
theorem cr_197 {X : Nat → Option zz_C} {s : mS} {N : Nat} {d : Nat} (hd : 0 ≤ d) {Q : zz_O → zz_H → Prop} {x0 : Int64} {h : zz_H} {t t' : cS} {o : kY} (hR : kR h t s) (hf : cf_197 N X x0 t = some (t', o)) (k : ∀ h', kR h' t' s → kE o Q h') : zz_J zp_P zt_tf zt_fd X d zm_197 0 [(0, .long x0)] [] h Q := by
  unfold cf_197 at hf
  exact zz_J.weak (cr_197_0 hd hR hf k) rfl ⟨rfl, trivial⟩
/-! yX10_placeNow ()I -/
theorem cb_243_0 {X : Nat → Option zz_C} {h : zz_H} {t : cS} {s : mS} {d : Nat} {Q : zz_O → zz_H → Prop}  (hR : kR h t s) (k : ∀ {h : zz_H}, kR h t s → Q (.inl (some (.int (kI t 3 6)))) h) : zz_J zp_P zt_tf zt_fd X d zm_243 0 [(0, .ref 3)] [] h Q := by
  refine zz_J.n 1 rfl rfl rfl ?_
  refine zz_J.g 4 rfl (hR.gv (v := .int (kI t 3 6)) ko_3 (by decide) rfl) rfl ?_
  refine zz_J.ret rfl rfl rfl ?_
  exact k hR
def cf_243_0 (N : Nat) (X : Nat → Option zz_C)  (t : cS) : kO := some (t, .inl (some (.int (kI t 3 6))))
theorem cr_243_0 {X : Nat → Option zz_C} {s : mS} {N : Nat} {d : Nat} (hd : 0 ≤ d) {Q : zz_O → zz_H → Prop}  {h : zz_H} {t t' : cS} {o : kY} (hR : kR h t s) (hf : cf_243_0 N X  t = some (t', o)) (k : (∀ h', kR h' t' s → kE o Q h')) : zz_J zp_P zt_tf zt_fd X d zm_243 0 [(0, .ref 3)] [] h Q := by
  unfold cf_243_0 at hf
  cases hf
  exact cb_243_0 hR  (fun {h} hR => k h hR)
/-- placeNow -/
def cf_243 (N : Nat) (X : Nat → Option zz_C)  (t : cS) : kO := cf_243_0 N X  t
theorem cr_243 {X : Nat → Option zz_C} {s : mS} {N : Nat} {d : Nat} (hd : 0 ≤ d) {Q : zz_O → zz_H → Prop}  {h : zz_H} {t t' : cS} {o : kY} (hR : kR h t s) (hf : cf_243 N X  t = some (t', o)) (k : ∀ h', kR h' t' s → kE o Q h') : zz_J zp_P zt_tf zt_fd X d zm_243 0 [(0, .ref 3)] [] h Q := by
  unfold cf_243 at hf
  exact zz_J.weak (cr_243_0 hd hR hf k) rfl ⟨rfl, trivial⟩
/-! yX10_kindNow ()I -/
theorem cb_42_0 {X : Nat → Option zz_C} {h : zz_H} {t : cS} {s : mS} {d : Nat} {Q : zz_O → zz_H → Prop}  (hR : kR h t s) (k : ∀ {h : zz_H}, kR h t s → Q (.inl (some (.int (kI t 3 5)))) h) : zz_J zp_P zt_tf zt_fd X d zm_42 0 [(0, .ref 3)] [] h Q := by
  refine zz_J.n 1 rfl rfl rfl ?_
  refine zz_J.g 4 rfl (hR.gv (v := .int (kI t 3 5)) ko_3 (by decide) rfl) rfl ?_
  refine zz_J.ret rfl rfl rfl ?_
  exact k hR
def cf_42_0 (N : Nat) (X : Nat → Option zz_C)  (t : cS) : kO := some (t, .inl (some (.int (kI t 3 5))))
theorem cr_42_0 {X : Nat → Option zz_C} {s : mS} {N : Nat} {d : Nat} (hd : 0 ≤ d) {Q : zz_O → zz_H → Prop}  {h : zz_H} {t t' : cS} {o : kY} (hR : kR h t s) (hf : cf_42_0 N X  t = some (t', o)) (k : (∀ h', kR h' t' s → kE o Q h')) : zz_J zp_P zt_tf zt_fd X d zm_42 0 [(0, .ref 3)] [] h Q := by
  unfold cf_42_0 at hf
  cases hf
  exact cb_42_0 hR  (fun {h} hR => k h hR)
/-- kindNow -/
def cf_42 (N : Nat) (X : Nat → Option zz_C)  (t : cS) : kO := cf_42_0 N X  t
theorem cr_42 {X : Nat → Option zz_C} {s : mS} {N : Nat} {d : Nat} (hd : 0 ≤ d) {Q : zz_O → zz_H → Prop}  {h : zz_H} {t t' : cS} {o : kY} (hR : kR h t s) (hf : cf_42 N X  t = some (t', o)) (k : ∀ h', kR h' t' s → kE o Q h') : zz_J zp_P zt_tf zt_fd X d zm_42 0 [(0, .ref 3)] [] h Q := by
  unfold cf_42 at hf
  exact zz_J.weak (cr_42_0 hd hR hf k) rfl ⟨rfl, trivial⟩
/-! yX5_failUnless (ZI)V -/
theorem cb_202_0 {X : Nat → Option zz_C} {h : zz_H} {t : cS} {s : mS} {d : Nat} {Q : zz_O → zz_H → Prop} {x1 : Int32} {x2 : Int32} (hR : kR h t s) (k1 : ¬ x1 = 0 → (∀ {h : zz_H}, kR h t s → zz_J zp_P zt_tf zt_fd X d zm_202 46 [] [] h Q)) (k2 : ¬ ¬ x1 = 0 → (∀ {h : zz_H}, kR h t s → zz_J zp_P zt_tf zt_fd X d zm_202 4 [(0, .ref 2), (2, .int x2)] [] h Q)) : zz_J zp_P zt_tf zt_fd X d zm_202 0 [(0, .ref 2), (1, .int x1), (2, .int x2)] [] h Q := by
  refine zz_J.n 1 rfl rfl rfl ?_
  refine zz_J.b1 46 4 (A := ¬ x1 = 0) rfl (zz_cond_ne _ _) (by decide) rfl rfl (fun c => ?_) (fun c => ?_)
  · exact zz_J.weak (k1 c hR) rfl trivial
  · exact zz_J.weak (k2 c hR) rfl ⟨rfl, rfl, trivial⟩
theorem cb_202_4 {X : Nat → Option zz_C} {h : zz_H} {t : cS} {s : mS} {d : Nat} {Q : zz_O → zz_H → Prop} {x2 : Int32} (hR : kR h t s) (k : ∀ {h : zz_H}, kR h t s → zz_J zp_P zt_tf zt_fd X d zm_42 0 [(0, .ref 3)] [] h (zz_after 10 Q (fun v h' => zz_J zp_P zt_tf zt_fd X (d + 1) zm_202 12 [(0, .ref 2), (2, .int x2)] (v.toList ++ [.ref 2]) h' Q))) : zz_J zp_P zt_tf zt_fd X (d + 1) zm_202 4 [(0, .ref 2), (2, .int x2)] [] h Q := by
  refine zz_J.n 5 rfl rfl rfl ?_
  refine zz_J.n 6 rfl rfl rfl ?_
  refine zz_J.g 9 rfl (hR.gv (v := .ref 3) ko_2 (by decide) rfl) rfl ?_
  refine zz_J.cv 12 (as := [.ref 2]) rfl rfl (hR.clO ko_3 (by decide) (by decide)) (by decide) (Nat.le_of_ble_eq_true rfl) (Nat.le_of_ble_eq_true rfl) rfl (Nat.le_of_ble_eq_true rfl) rfl ?_
  refine zz_J.mono (k hR) ?_
  intro o h' hE
  cases o with
  | inl v => exact zz_J.weak hE rfl ⟨rfl, rfl, trivial⟩
  | inr q => exact hE
theorem cb_202_12 {X : Nat → Option zz_C} {h : zz_H} {t : cS} {s : mS} {d : Nat} {Q : zz_O → zz_H → Prop} {x2 : Int32} {y1 : Int32} (hR : kR h t s) (k1 : ¬ y1 = 1 → (∀ {h : zz_H}, kR h t s → zz_J zp_P zt_tf zt_fd X d zm_202 20 [(0, .ref 2), (2, .int x2)] [.ref 2] h Q)) (k2 : ¬ ¬ y1 = 1 → (∀ {h : zz_H}, kR h t s → zz_J zp_P zt_tf zt_fd X d zm_202 16 [(0, .ref 2)] [.ref 2] h Q)) : zz_J zp_P zt_tf zt_fd X d zm_202 12 [(0, .ref 2), (2, .int x2)] [.int y1, .ref 2] h Q := by
  refine zz_J.c 13 (.int 1) rfl rfl rfl rfl ?_
  refine zz_J.b2 20 16 (A := ¬ y1 = 1) rfl (zz_cond_ne _ _) (by decide) rfl rfl (fun c => ?_) (fun c => ?_)
  · exact zz_J.weak (k1 c hR) rfl ⟨rfl, rfl, trivial⟩
  · exact zz_J.weak (k2 c hR) rfl ⟨rfl, trivial⟩
theorem cb_202_16 {X : Nat → Option zz_C} {h : zz_H} {t : cS} {s : mS} {d : Nat} {Q : zz_O → zz_H → Prop}  (hR : kR h t s) (k : ∀ {h : zz_H}, kR h t s → zz_J zp_P zt_tf zt_fd X d zm_202 21 [(0, .ref 2)] [.int 1, .ref 2] h Q) : zz_J zp_P zt_tf zt_fd X d zm_202 16 [(0, .ref 2)] [.ref 2] h Q := by
  refine zz_J.c 17 (.int 1) rfl rfl rfl rfl ?_
  refine zz_J.n 21 rfl rfl rfl ?_
  exact zz_J.weak (k hR) rfl ⟨rfl, trivial⟩
theorem cb_202_20 {X : Nat → Option zz_C} {h : zz_H} {t : cS} {s : mS} {d : Nat} {Q : zz_O → zz_H → Prop} {x2 : Int32} (hR : kR h t s) (k : ∀ {h : zz_H}, kR h t s → zz_J zp_P zt_tf zt_fd X d zm_202 21 [(0, .ref 2)] [.int x2, .ref 2] h Q) : zz_J zp_P zt_tf zt_fd X d zm_202 20 [(0, .ref 2), (2, .int x2)] [.ref 2] h Q := by
  refine zz_J.n 21 rfl rfl rfl ?_
  exact zz_J.weak (k hR) rfl ⟨rfl, trivial⟩
theorem cb_202_21 {X : Nat → Option zz_C} {h : zz_H} {t : cS} {s : mS} {d : Nat} {Q : zz_O → zz_H → Prop} {y1 : Int32} (hR : kR h t s) (k : ∀ {h : zz_H}, kR h (jI t 2 10 y1) s → zz_J zp_P zt_tf zt_fd X d zm_243 0 [(0, .ref 3)] [] h (zz_after 10 Q (fun v h' => zz_J zp_P zt_tf zt_fd X (d + 1) zm_202 32 [] (v.toList ++ [.ref 2]) h' Q))) : zz_J zp_P zt_tf zt_fd X (d + 1) zm_202 21 [(0, .ref 2)] [.int y1, .ref 2] h Q := by
  obtain ⟨h1, eq1, hR⟩ := hR.pI (x := y1) (by decide) ko_2 (kpi_2_10 _) (Nat.le_of_ble_eq_true rfl) rfl
  refine zz_J.pv 24 rfl eq1 rfl ?_
  clear eq1
  refine zz_J.n 25 rfl rfl rfl ?_
  refine zz_J.n 26 rfl rfl rfl ?_
  refine zz_J.g 29 rfl (hR.gv (v := .ref 3) ko_2 (by decide) rfl) rfl ?_
  refine zz_J.cv 32 (as := [.ref 2]) rfl rfl (hR.clO ko_3 (by decide) (by decide)) (by decide) (Nat.le_of_ble_eq_true rfl) (Nat.le_of_ble_eq_true rfl) rfl (Nat.le_of_ble_eq_true rfl) rfl ?_
  refine zz_J.mono (k hR) ?_
  intro o h' hE
  cases o with
  | inl v => exact zz_J.weak hE rfl trivial
  | inr q => exact hE
theorem cb_202_32 {X : Nat → Option zz_C} {h : zz_H} {t : cS} {s : mS} {d : Nat} {Q : zz_O → zz_H → Prop} {y1 : Int32} (hR : kR h t s) (e0 : (kN t) + 1 < zz_out) (k : ∀ {h : zz_H} {q : Nat}, kR h (jX (jI t 2 11 y1) 6) s → Q (.inr q) h) : zz_J zp_P zt_tf zt_fd X (d + 8) zm_202 32 [] [.int y1, .ref 2] h Q := by
  obtain ⟨h1, eq1, hR⟩ := hR.pI (x := y1) (by decide) ko_2 (kpi_2_11 _) (Nat.le_of_ble_eq_true rfl) rfl
  refine zz_J.pv 35 rfl eq1 rfl ?_
  clear eq1
  refine zz_J.throw rfl rfl ⟨Nat.le_add_left _ _, Nat.le_of_ble_eq_true rfl, hR.room e0⟩ ?_
  exact k (hR.x (c := .inr (14, [])) rfl e0)
theorem cb_202_46 {X : Nat → Option zz_C} {h : zz_H} {t : cS} {s : mS} {d : Nat} {Q : zz_O → zz_H → Prop}  (hR : kR h t s) (k : ∀ {h : zz_H}, kR h t s → Q (.inl none) h) : zz_J zp_P zt_tf zt_fd X d zm_202 46 [] [] h Q := by
  refine zz_J.ret rfl rfl rfl ?_
  exact k hR
def cf_202_46 (N : Nat) (X : Nat → Option zz_C)  (t : cS) : kO := some (t, .inl none)
theorem cr_202_46 {X : Nat → Option zz_C} {s : mS} {N : Nat} {d : Nat} (hd : 8 ≤ d) {Q : zz_O → zz_H → Prop}  {h : zz_H} {t t' : cS} {o : kY} (hR : kR h t s) (hf : cf_202_46 N X  t = some (t', o)) (k : (∀ h', kR h' t' s → kE o Q h')) : zz_J zp_P zt_tf zt_fd X d zm_202 46 [] [] h Q := by
  unfold cf_202_46 at hf
  cases hf
  exact cb_202_46 hR  (fun {h} hR => k h hR)
def cf_202_32 (N : Nat) (X : Nat → Option zz_C) (y1 : Int32) (t : cS) : kO := if (kN t) + 1 < zz_out then (some ((jX (jI t 2 11 y1) 6), .inr ())) else none
theorem cr_202_32 {X : Nat → Option zz_C} {s : mS} {N : Nat} {d : Nat} (hd : 8 ≤ d) {Q : zz_O → zz_H → Prop} {y1 : Int32} {h : zz_H} {t t' : cS} {o : kY} (hR : kR h t s) (hf : cf_202_32 N X y1 t = some (t', o)) (k : (∀ h', kR h' t' s → kE o Q h')) : zz_J zp_P zt_tf zt_fd X d zm_202 32 [] [.int y1, .ref 2] h Q := by
  unfold cf_202_32 at hf
  obtain ⟨e0, hf⟩ := ko_if hf
  obtain ⟨d', rfl⟩ : ∃ d', d = d' + 8 := ⟨d - 8, by omega⟩
  cases hf
  exact cb_202_32 hR e0 (fun {h} {q} hR => k h hR q)
def cf_202_21 (N : Nat) (X : Nat → Option zz_C) (y1 : Int32) (t : cS) : kO := ko_call 10 (cf_243 N X  (jI t 2 10 y1)) (fun g1 v1 => co_i v1 (fun y => cf_202_32 N X y g1))
theorem cr_202_21 {X : Nat → Option zz_C} {s : mS} {N : Nat} {d : Nat} (hd : 8 ≤ d) {Q : zz_O → zz_H → Prop} {y1 : Int32} {h : zz_H} {t t' : cS} {o : kY} (hR : kR h t s) (hf : cf_202_21 N X y1 t = some (t', o)) (k : (∀ h', kR h' t' s → kE o Q h')) : zz_J zp_P zt_tf zt_fd X d zm_202 21 [(0, .ref 2)] [.int y1, .ref 2] h Q := by
  unfold cf_202_21 at hf
  obtain ⟨d', rfl⟩ : ∃ d', d = d' + 1 := ⟨d - 1, by omega⟩
  refine cb_202_21 hR  (fun {h} hR => ?_)
  rcases ko_call_ok hf with ⟨g1, v1, er, hf⟩ | ⟨g1, er, hq⟩
  · obtain ⟨y, hv, hf2⟩ := co_i_ok hf
    clear hf
    have hf := hf2
    clear hf2
    subst hv
    refine cr_243 (by omega) hR er (fun h hR => ?_)
    exact cr_202_32 hd hR hf k
  · refine cr_243 (by omega) hR er (fun h hR => ?_)
    exact ko_thrown hq hR k
def cf_202_20 (N : Nat) (X : Nat → Option zz_C) (x2 : Int32) (t : cS) : kO := cf_202_21 N X x2 t
theorem cr_202_20 {X : Nat → Option zz_C} {s : mS} {N : Nat} {d : Nat} (hd : 8 ≤ d) {Q : zz_O → zz_H → Prop} {x2 : Int32} {h : zz_H} {t t' : cS} {o : kY} (hR : kR h t s) (hf : cf_202_20 N X x2 t = some (t', o)) (k : (∀ h', kR h' t' s → kE o Q h')) : zz_J zp_P zt_tf zt_fd X d zm_202 20 [(0, .ref 2), (2, .int x2)] [.ref 2] h Q := by
  unfold cf_202_20 at hf
  exact cb_202_20 hR  (fun hR => cr_202_21 hd hR hf k)
def cf_202_16 (N : Nat) (X : Nat → Option zz_C)  (t : cS) : kO := cf_202_21 N X 1 t
theorem cr_202_16 {X : Nat → Option zz_C} {s : mS} {N : Nat} {d : Nat} (hd : 8 ≤ d) {Q : zz_O → zz_H → Prop}  {h : zz_H} {t t' : cS} {o : kY} (hR : kR h t s) (hf : cf_202_16 N X  t = some (t', o)) (k : (∀ h', kR h' t' s → kE o Q h')) : zz_J zp_P zt_tf zt_fd X d zm_202 16 [(0, .ref 2)] [.ref 2] h Q := by
  unfold cf_202_16 at hf
  exact cb_202_16 hR  (fun hR => cr_202_21 hd hR hf k)
def cf_202_12 (N : Nat) (X : Nat → Option zz_C) (x2 : Int32) (y1 : Int32) (t : cS) : kO := if ¬ y1 = 1 then cf_202_20 N X x2 t else cf_202_16 N X  t
theorem cr_202_12 {X : Nat → Option zz_C} {s : mS} {N : Nat} {d : Nat} (hd : 8 ≤ d) {Q : zz_O → zz_H → Prop} {x2 : Int32} {y1 : Int32} {h : zz_H} {t t' : cS} {o : kY} (hR : kR h t s) (hf : cf_202_12 N X x2 y1 t = some (t', o)) (k : (∀ h', kR h' t' s → kE o Q h')) : zz_J zp_P zt_tf zt_fd X d zm_202 12 [(0, .ref 2), (2, .int x2)] [.int y1, .ref 2] h Q := by
  unfold cf_202_12 at hf
  refine cb_202_12 hR  (fun c {h} hR => ?_) (fun c {h} hR => ?_)
  · rw [if_pos c] at hf
    exact cr_202_20 hd hR hf k
  · rw [if_neg c] at hf
    exact cr_202_16 hd hR hf k
def cf_202_4 (N : Nat) (X : Nat → Option zz_C) (x2 : Int32) (t : cS) : kO := ko_call 10 (cf_42 N X  t) (fun g1 v1 => co_i v1 (fun y => cf_202_12 N X x2 y g1))
theorem cr_202_4 {X : Nat → Option zz_C} {s : mS} {N : Nat} {d : Nat} (hd : 8 ≤ d) {Q : zz_O → zz_H → Prop} {x2 : Int32} {h : zz_H} {t t' : cS} {o : kY} (hR : kR h t s) (hf : cf_202_4 N X x2 t = some (t', o)) (k : (∀ h', kR h' t' s → kE o Q h')) : zz_J zp_P zt_tf zt_fd X d zm_202 4 [(0, .ref 2), (2, .int x2)] [] h Q := by
  unfold cf_202_4 at hf
  obtain ⟨d', rfl⟩ : ∃ d', d = d' + 1 := ⟨d - 1, by omega⟩
  refine cb_202_4 hR  (fun {h} hR => ?_)
  rcases ko_call_ok hf with ⟨g1, v1, er, hf⟩ | ⟨g1, er, hq⟩
  · obtain ⟨y, hv, hf2⟩ := co_i_ok hf
    clear hf
    have hf := hf2
    clear hf2
    subst hv
    refine cr_42 (by omega) hR er (fun h hR => ?_)
    exact cr_202_12 hd hR hf k
  · refine cr_42 (by omega) hR er (fun h hR => ?_)
    exact ko_thrown hq hR k
def cf_202_0 (N : Nat) (X : Nat → Option zz_C) (x1 : Int32) (x2 : Int32) (t : cS) : kO := if ¬ x1 = 0 then cf_202_46 N X  t else cf_202_4 N X x2 t
theorem cr_202_0 {X : Nat → Option zz_C} {s : mS} {N : Nat} {d : Nat} (hd : 8 ≤ d) {Q : zz_O → zz_H → Prop} {x1 : Int32} {x2 : Int32} {h : zz_H} {t t' : cS} {o : kY} (hR : kR h t s) (hf : cf_202_0 N X x1 x2 t = some (t', o)) (k : (∀ h', kR h' t' s → kE o Q h')) : zz_J zp_P zt_tf zt_fd X d zm_202 0 [(0, .ref 2), (1, .int x1), (2, .int x2)] [] h Q := by
  unfold cf_202_0 at hf
  refine cb_202_0 hR  (fun c {h} hR => ?_) (fun c {h} hR => ?_)
  · rw [if_pos c] at hf
    exact cr_202_46 hd hR hf k
  · rw [if_neg c] at hf
    exact cr_202_4 hd hR hf k
/-- failUnless -/
def cf_202 (N : Nat) (X : Nat → Option zz_C) (x1 : Int32) (x2 : Int32) (t : cS) : kO := cf_202_0 N X x1 x2 t
theorem cr_202 {X : Nat → Option zz_C} {s : mS} {N : Nat} {d : Nat} (hd : 8 ≤ d) {Q : zz_O → zz_H → Prop} {x1 : Int32} {x2 : Int32} {h : zz_H} {t t' : cS} {o : kY} (hR : kR h t s) (hf : cf_202 N X x1 x2 t = some (t', o)) (k : ∀ h', kR h' t' s → kE o Q h') : zz_J zp_P zt_tf zt_fd X d zm_202 0 [(0, .ref 2), (1, .int x1), (2, .int x2)] [] h Q := by
  unfold cf_202 at hf
  exact zz_J.weak (cr_202_0 hd hR hf k) rfl ⟨rfl, rfl, rfl, trivial⟩
/-! yX6_numberOf (J)I -/
theorem cb_205_0 {X : Nat → Option zz_C} {h : zz_H} {t : cS} {s : mS} {d : Nat} {Q : zz_O → zz_H → Prop} {x0 : Nat} {x1 : Int64} (hR : kR h t s) (k : ∀ {h : zz_H}, kR h t s → zz_J zp_P zt_tf zt_fd X d zm_205 2 [(0, .ref x0), (1, .long x1), (3, .int 0)] [] h Q) : zz_J zp_P zt_tf zt_fd X d zm_205 0 [(0, .ref x0), (1, .long x1)] [] h Q := by
  refine zz_J.c 1 (.int 0) rfl rfl rfl rfl ?_
  refine zz_J.n 2 rfl rfl rfl ?_
  exact zz_J.weak (k hR) rfl ⟨rfl, rfl, rfl, trivial⟩
theorem cb_205_2 {X : Nat → Option zz_C} {h : zz_H} {t : cS} {s : mS} {d : Nat} {Q : zz_O → zz_H → Prop} {x0 : Nat} {x1 : Int64} {x3 : Int32} (hR : kR h t s) (e0 : x0 = 12 ∨ x0 = 21) (k1 : (kI t x0 4) ≤ x3 → (∀ {h : zz_H}, kR h t s → zz_J zp_P zt_tf zt_fd X d zm_205 29 [] [] h Q)) (k2 : ¬ (kI t x0 4) ≤ x3 → (∀ {h : zz_H}, kR h t s → zz_J zp_P zt_tf zt_fd X d zm_205 10 [(0, .ref x0), (1, .long x1), (3, .int x3)] [] h Q)) : zz_J zp_P zt_tf zt_fd X d zm_205 2 [(0, .ref x0), (1, .long x1), (3, .int x3)] [] h Q := by
  refine zz_J.n 3 rfl rfl rfl ?_
  refine zz_J.n 4 rfl rfl rfl ?_
  refine zz_J.g 7 rfl (hR.gv (v := .int (kI t x0 4)) (ko_P e0) (by decide) rfl) rfl ?_
  refine zz_J.b2 29 10 (A := (kI t x0 4) ≤ x3) rfl rfl (by decide) rfl rfl (fun c => ?_) (fun c => ?_)
  · exact zz_J.weak (k1 c hR) rfl trivial
  · exact zz_J.weak (k2 c hR) rfl ⟨rfl, rfl, rfl, trivial⟩
theorem cb_205_10 {X : Nat → Option zz_C} {h : zz_H} {t : cS} {s : mS} {d : Nat} {Q : zz_O → zz_H → Prop} {x0 : Nat} {x1 : Int64} {x3 : Int32} (hR : kR h t s) (e0 : x0 = 12 ∨ x0 = 21) (e1 : ¬ (x3 < 0 ∨ (kB t (x0 + 4)).1 ≤ (Int32.toNatClampNeg x3))) (k1 : ¬ (lg_cmp ((kB t (x0 + 4)).2 (Int32.toNatClampNeg x3)) x1) = 0 → (∀ {h : zz_H}, kR h t s → zz_J zp_P zt_tf zt_fd X d zm_205 23 [(0, .ref x0), (1, .long x1), (3, .int x3)] [] h Q)) (k2 : ¬ ¬ (lg_cmp ((kB t (x0 + 4)).2 (Int32.toNatClampNeg x3)) x1) = 0 → (∀ {h : zz_H}, kR h t s → zz_J zp_P zt_tf zt_fd X d zm_205 21 [(3, .int x3)] [] h Q)) : zz_J zp_P zt_tf zt_fd X d zm_205 10 [(0, .ref x0), (1, .long x1), (3, .int x3)] [] h Q := by
  refine zz_J.n 11 rfl rfl rfl ?_
  refine zz_J.g 14 rfl (hR.gv (v := .ref (kD t (x0 + 4))) (ko_P e0) (by decide) rfl) rfl ?_
  refine zz_J.n 15 rfl rfl rfl ?_
  refine zz_J.al 16 rfl (hR.al (w := ((kB t (x0 + 4)).2 (Int32.toNatClampNeg x3))) (ka_P4 e0) rfl e1 rfl) rfl ?_
  refine zz_J.n 17 rfl rfl rfl ?_
  refine zz_J.n 18 rfl rfl rfl ?_
  refine zz_J.b1 23 21 (A := ¬ (lg_cmp ((kB t (x0 + 4)).2 (Int32.toNatClampNeg x3)) x1) = 0) rfl (zz_cond_ne _ _) (by decide) rfl rfl (fun c => ?_) (fun c => ?_)
  · exact zz_J.weak (k1 c hR) rfl ⟨rfl, rfl, rfl, trivial⟩
  · exact zz_J.weak (k2 c hR) rfl ⟨rfl, trivial⟩
theorem cb_205_21 {X : Nat → Option zz_C} {h : zz_H} {t : cS} {s : mS} {d : Nat} {Q : zz_O → zz_H → Prop} {x3 : Int32} (hR : kR h t s) (k : ∀ {h : zz_H}, kR h t s → Q (.inl (some (.int x3))) h) : zz_J zp_P zt_tf zt_fd X d zm_205 21 [(3, .int x3)] [] h Q := by
  refine zz_J.n 22 rfl rfl rfl ?_
  refine zz_J.ret rfl rfl rfl ?_
  exact k hR
theorem cb_205_23 {X : Nat → Option zz_C} {h : zz_H} {t : cS} {s : mS} {d : Nat} {Q : zz_O → zz_H → Prop} {x0 : Nat} {x1 : Int64} {x3 : Int32} (hR : kR h t s) (k : ∀ {h : zz_H}, kR h t s → zz_J zp_P zt_tf zt_fd X d zm_205 2 [(0, .ref x0), (1, .long x1), (3, .int (x3 + 1))] [] h Q) : zz_J zp_P zt_tf zt_fd X d zm_205 23 [(0, .ref x0), (1, .long x1), (3, .int x3)] [] h Q := by
  refine zz_J.n 26 rfl rfl rfl ?_
  refine zz_J.n 2 rfl rfl rfl ?_
  exact zz_J.weak (k hR) rfl ⟨rfl, rfl, rfl, trivial⟩
theorem cb_205_29 {X : Nat → Option zz_C} {h : zz_H} {t : cS} {s : mS} {d : Nat} {Q : zz_O → zz_H → Prop}  (hR : kR h t s) (k : ∀ {h : zz_H}, kR h t s → Q (.inl (some (.int (-1)))) h) : zz_J zp_P zt_tf zt_fd X d zm_205 29 [] [] h Q := by
  refine zz_J.c 30 (.int (-1)) rfl rfl rfl rfl ?_
  refine zz_J.ret rfl rfl rfl ?_
  exact k hR
def cf_205_29 (N : Nat) (X : Nat → Option zz_C)  (t : cS) : kO := some (t, .inl (some (.int (-1))))
theorem cr_205_29 {X : Nat → Option zz_C} {s : mS} {N : Nat} {d : Nat} (hd : 0 ≤ d) {Q : zz_O → zz_H → Prop}  {h : zz_H} {t t' : cS} {o : kY} (hR : kR h t s) (hf : cf_205_29 N X  t = some (t', o)) (k : (∀ h', kR h' t' s → kE o Q h')) : zz_J zp_P zt_tf zt_fd X d zm_205 29 [] [] h Q := by
  unfold cf_205_29 at hf
  cases hf
  exact cb_205_29 hR  (fun {h} hR => k h hR)
def cf_205_21 (N : Nat) (X : Nat → Option zz_C) (x3 : Int32) (t : cS) : kO := some (t, .inl (some (.int x3)))
theorem cr_205_21 {X : Nat → Option zz_C} {s : mS} {N : Nat} {d : Nat} (hd : 0 ≤ d) {Q : zz_O → zz_H → Prop} {x3 : Int32} {h : zz_H} {t t' : cS} {o : kY} (hR : kR h t s) (hf : cf_205_21 N X x3 t = some (t', o)) (k : (∀ h', kR h' t' s → kE o Q h')) : zz_J zp_P zt_tf zt_fd X d zm_205 21 [(3, .int x3)] [] h Q := by
  unfold cf_205_21 at hf
  cases hf
  exact cb_205_21 hR  (fun {h} hR => k h hR)
def cf_205_23 (N : Nat) (X : Nat → Option zz_C) (rc : Nat → Nat → Int64 → Int32 → cS → kO) (x0 : Nat) (x1 : Int64) (x3 : Int32) (t : cS) : kO := rc 0 x0 x1 (x3 + 1) t
theorem cr_205_23 {X : Nat → Option zz_C} {s : mS} {N : Nat} {d : Nat} (hd : 0 ≤ d) {rc : Nat → Nat → Int64 → Int32 → cS → kO} (hrc0 : ∀ {Q : zz_O → zz_H → Prop} {x0 : Nat} {x1 : Int64} {x3 : Int32} {h : zz_H} {t t' : cS} {o : kY}, kR h t s → rc 0 x0 x1 x3 t = some (t', o) → (∀ h', kR h' t' s → kE o Q h') → zz_J zp_P zt_tf zt_fd X d zm_205 2 [(0, .ref x0), (1, .long x1), (3, .int x3)] [] h Q) {Q : zz_O → zz_H → Prop} {x0 : Nat} {x1 : Int64} {x3 : Int32} {h : zz_H} {t t' : cS} {o : kY} (hR : kR h t s) (hf : cf_205_23 N X rc x0 x1 x3 t = some (t', o)) (k : (∀ h', kR h' t' s → kE o Q h')) : zz_J zp_P zt_tf zt_fd X d zm_205 23 [(0, .ref x0), (1, .long x1), (3, .int x3)] [] h Q := by
  unfold cf_205_23 at hf
  exact cb_205_23 hR  (fun hR => hrc0 hR hf k)
def cf_205_10 (N : Nat) (X : Nat → Option zz_C) (rc : Nat → Nat → Int64 → Int32 → cS → kO) (x0 : Nat) (x1 : Int64) (x3 : Int32) (t : cS) : kO := if x0 = 12 ∨ x0 = 21 then (if ¬ (x3 < 0 ∨ (kB t (x0 + 4)).1 ≤ (Int32.toNatClampNeg x3)) then (if ¬ (lg_cmp ((kB t (x0 + 4)).2 (Int32.toNatClampNeg x3)) x1) = 0 then cf_205_23 N X rc x0 x1 x3 t else cf_205_21 N X x3 t) else none) else none
theorem cr_205_10 {X : Nat → Option zz_C} {s : mS} {N : Nat} {d : Nat} (hd : 0 ≤ d) {rc : Nat → Nat → Int64 → Int32 → cS → kO} (hrc0 : ∀ {Q : zz_O → zz_H → Prop} {x0 : Nat} {x1 : Int64} {x3 : Int32} {h : zz_H} {t t' : cS} {o : kY}, kR h t s → rc 0 x0 x1 x3 t = some (t', o) → (∀ h', kR h' t' s → kE o Q h') → zz_J zp_P zt_tf zt_fd X d zm_205 2 [(0, .ref x0), (1, .long x1), (3, .int x3)] [] h Q) {Q : zz_O → zz_H → Prop} {x0 : Nat} {x1 : Int64} {x3 : Int32} {h : zz_H} {t t' : cS} {o : kY} (hR : kR h t s) (hf : cf_205_10 N X rc x0 x1 x3 t = some (t', o)) (k : (∀ h', kR h' t' s → kE o Q h')) : zz_J zp_P zt_tf zt_fd X d zm_205 10 [(0, .ref x0), (1, .long x1), (3, .int x3)] [] h Q := by
  unfold cf_205_10 at hf
  obtain ⟨e0, hf⟩ := ko_if hf
  obtain ⟨e1, hf⟩ := ko_if hf
  refine cb_205_10 hR e0 e1 (fun c {h} hR => ?_) (fun c {h} hR => ?_)
  · rw [if_pos c] at hf
    exact cr_205_23 hd hrc0 hR hf k
  · rw [if_neg c] at hf
    exact cr_205_21 hd hR hf k
def cf_205_2 (N : Nat) (X : Nat → Option zz_C) (rc : Nat → Nat → Int64 → Int32 → cS → kO) (x0 : Nat) (x1 : Int64) (x3 : Int32) (t : cS) : kO := if x0 = 12 ∨ x0 = 21 then (if (kI t x0 4) ≤ x3 then cf_205_29 N X  t else cf_205_10 N X rc x0 x1 x3 t) else none
theorem cr_205_2 {X : Nat → Option zz_C} {s : mS} {N : Nat} {d : Nat} (hd : 0 ≤ d) {rc : Nat → Nat → Int64 → Int32 → cS → kO} (hrc0 : ∀ {Q : zz_O → zz_H → Prop} {x0 : Nat} {x1 : Int64} {x3 : Int32} {h : zz_H} {t t' : cS} {o : kY}, kR h t s → rc 0 x0 x1 x3 t = some (t', o) → (∀ h', kR h' t' s → kE o Q h') → zz_J zp_P zt_tf zt_fd X d zm_205 2 [(0, .ref x0), (1, .long x1), (3, .int x3)] [] h Q) {Q : zz_O → zz_H → Prop} {x0 : Nat} {x1 : Int64} {x3 : Int32} {h : zz_H} {t t' : cS} {o : kY} (hR : kR h t s) (hf : cf_205_2 N X rc x0 x1 x3 t = some (t', o)) (k : (∀ h', kR h' t' s → kE o Q h')) : zz_J zp_P zt_tf zt_fd X d zm_205 2 [(0, .ref x0), (1, .long x1), (3, .int x3)] [] h Q := by
  unfold cf_205_2 at hf
  obtain ⟨e0, hf⟩ := ko_if hf
  refine cb_205_2 hR e0 (fun c {h} hR => ?_) (fun c {h} hR => ?_)
  · rw [if_pos c] at hf
    exact cr_205_29 hd hR hf k
  · rw [if_neg c] at hf
    exact cr_205_10 hd hrc0 hR hf k
def cf_205_L2 (N : Nat) (X : Nat → Option zz_C) : Nat → Nat → Nat → Int64 → Int32 → cS → kO
  | 0, _, _, _, _, _ => none
  | n + 1, l, x0, x1, x3, t => if l = 0 then cf_205_2 N X (cf_205_L2 N X n) x0 x1 x3 t else none
theorem cr_205_L2 {X : Nat → Option zz_C} {s : mS} {N : Nat} {d : Nat} (hd : 0 ≤ d) : ∀ n : Nat, (∀ {Q : zz_O → zz_H → Prop} {x0 : Nat} {x1 : Int64} {x3 : Int32} {h : zz_H} {t t' : cS} {o : kY}, kR h t s → cf_205_L2 N X n 0 x0 x1 x3 t = some (t', o) → (∀ h', kR h' t' s → kE o Q h') → zz_J zp_P zt_tf zt_fd X d zm_205 2 [(0, .ref x0), (1, .long x1), (3, .int x3)] [] h Q) := by
  intro n
  induction n with
  | zero => exact (fun _ hf _ => by cases hf)
  | succ n ih =>
    have h0 := @ih
    intro Q _ _ _ h t t' o hR hf k
    unfold cf_205_L2 at hf
    rw [if_pos rfl] at hf
    exact cr_205_2 hd h0 hR hf k
def cf_205_0 (N : Nat) (X : Nat → Option zz_C) (x0 : Nat) (x1 : Int64) (t : cS) : kO := cf_205_L2 N X N 0 x0 x1 0 t
theorem cr_205_0 {X : Nat → Option zz_C} {s : mS} {N : Nat} {d : Nat} (hd : 0 ≤ d) {Q : zz_O → zz_H → Prop} {x0 : Nat} {x1 : Int64} {h : zz_H} {t t' : cS} {o : kY} (hR : kR h t s) (hf : cf_205_0 N X x0 x1 t = some (t', o)) (k : (∀ h', kR h' t' s → kE o Q h')) : zz_J zp_P zt_tf zt_fd X d zm_205 0 [(0, .ref x0), (1, .long x1)] [] h Q := by
  unfold cf_205_0 at hf
  exact cb_205_0 hR  (fun hR => cr_205_L2 hd N hR hf k)
/-- numberOf -/
def cf_205 (N : Nat) (X : Nat → Option zz_C) (x0 : Nat) (x1 : Int64) (t : cS) : kO := cf_205_0 N X x0 x1 t
theorem cr_205 {X : Nat → Option zz_C} {s : mS} {N : Nat} {d : Nat} (hd : 0 ≤ d) {Q : zz_O → zz_H → Prop} {x0 : Nat} {x1 : Int64} {h : zz_H} {t t' : cS} {o : kY} (hR : kR h t s) (hf : cf_205 N X x0 x1 t = some (t', o)) (k : ∀ h', kR h' t' s → kE o Q h') : zz_J zp_P zt_tf zt_fd X d zm_205 0 [(0, .ref x0), (1, .long x1)] [] h Q := by
  unfold cf_205 at hf
  exact zz_J.weak (cr_205_0 hd hR hf k) rfl ⟨rfl, rfl, trivial⟩
/-! yX6_beginFunction (JI)V -/
theorem cb_206_0 {X : Nat → Option zz_C} {h : zz_H} {t : cS} {s : mS} {d : Nat} {Q : zz_O → zz_H → Prop} {x0 : Nat} {x1 : Int64} {x3 : Int32} (hR : kR h t s) (e0 : x0 = 12 ∨ x0 = 21) (k1 : 12 ≤ (kI t x0 4) → (∀ {h : zz_H}, kR h t s → zz_J zp_P zt_tf zt_fd X d zm_206 52 [] [] h Q)) (k2 : ¬ 12 ≤ (kI t x0 4) → (∀ {h : zz_H}, kR h t s → zz_J zp_P zt_tf zt_fd X d zm_206 9 [(0, .ref x0), (1, .long x1), (3, .int x3)] [] h Q)) : zz_J zp_P zt_tf zt_fd X d zm_206 0 [(0, .ref x0), (1, .long x1), (3, .int x3)] [] h Q := by
  refine zz_J.n 1 rfl rfl rfl ?_
  refine zz_J.g 4 rfl (hR.gv (v := .int (kI t x0 4)) (ko_P e0) (by decide) rfl) rfl ?_
  refine zz_J.c 6 (.int 12) rfl rfl rfl rfl ?_
  refine zz_J.b2 52 9 (A := 12 ≤ (kI t x0 4)) rfl rfl (by decide) rfl rfl (fun c => ?_) (fun c => ?_)
  · exact zz_J.weak (k1 c hR) rfl trivial
  · exact zz_J.weak (k2 c hR) rfl ⟨rfl, rfl, rfl, trivial⟩
theorem cb_206_9 {X : Nat → Option zz_C} {h : zz_H} {t : cS} {s : mS} {d : Nat} {Q : zz_O → zz_H → Prop} {x0 : Nat} {x1 : Int64} {x3 : Int32} (hR : kR h t s) (e0 : x0 = 12 ∨ x0 = 21) (e1 : ¬ ((kI t x0 4) < 0 ∨ (kB t (x0 + 4)).1 ≤ (Int32.toNatClampNeg (kI t x0 4)))) (e2 : ¬ ((kI t x0 4) < 0 ∨ (kA t (x0 + 5)).1 ≤ (Int32.toNatClampNeg (kI t x0 4)))) (e3 : ¬ ((kI t x0 4) < 0 ∨ (kA (jA (jB t (x0 + 4) (vp_updL (kB t (x0 + 4)).2 (Int32.toNatClampNeg (kI t x0 4)) x1)) (x0 + 5) (upd (kA t (x0 + 5)).2 (Int32.toNatClampNeg (kI t x0 4)) (kI t x0 3))) (x0 + 8)).1 ≤ (Int32.toNatClampNeg (kI t x0 4)))) (k : ∀ {h : zz_H}, kR h (jI (jA (jA (jB t (x0 + 4) (vp_updL (kB t (x0 + 4)).2 (Int32.toNatClampNeg (kI t x0 4)) x1)) (x0 + 5) (upd (kA t (x0 + 5)).2 (Int32.toNatClampNeg (kI t x0 4)) (kI t x0 3))) (x0 + 8) (upd (kA (jA (jB t (x0 + 4) (vp_updL (kB t (x0 + 4)).2 (Int32.toNatClampNeg (kI t x0 4)) x1)) (x0 + 5) (upd (kA t (x0 + 5)).2 (Int32.toNatClampNeg (kI t x0 4)) (kI t x0 3))) (x0 + 8)).2 (Int32.toNatClampNeg (kI t x0 4)) x3)) x0 4 ((kI t x0 4) + 1)) s → zz_J zp_P zt_tf zt_fd X d zm_206 52 [] [] h Q) : zz_J zp_P zt_tf zt_fd X d zm_206 9 [(0, .ref x0), (1, .long x1), (3, .int x3)] [] h Q := by
  refine zz_J.n 10 rfl rfl rfl ?_
  refine zz_J.g 13 rfl (hR.gv (v := .ref (kD t (x0 + 4))) (ko_P e0) (by decide) rfl) rfl ?_
  refine zz_J.n 14 rfl rfl rfl ?_
  refine zz_J.g 17 rfl (hR.gv (v := .int (kI t x0 4)) (ko_P e0) (by decide) rfl) rfl ?_
  refine zz_J.n 18 rfl rfl rfl ?_
  obtain ⟨h1, eq1, hR⟩ := hR.sl (x := x1) (ka_P4 e0) rfl e1
  refine zz_J.sl 19 rfl eq1 rfl ?_
  clear eq1
  refine zz_J.n 20 rfl rfl rfl ?_
  refine zz_J.g 23 rfl (hR.gv (v := .ref (kD t (x0 + 5))) (ko_P e0) (by decide) rfl) rfl ?_
  refine zz_J.n 24 rfl rfl rfl ?_
  refine zz_J.g 27 rfl (hR.gv (v := .int (kI t x0 4)) (ko_P e0) (by decide) rfl) rfl ?_
  refine zz_J.n 28 rfl rfl rfl ?_
  refine zz_J.g 31 rfl (hR.gv (v := .int (kI t x0 3)) (ko_P e0) (by decide) rfl) rfl ?_
  obtain ⟨h1, eq1, hR⟩ := hR.si (x := (kI t x0 3)) (ka_P5 e0) rfl e2
  refine zz_J.si 32 rfl eq1 rfl ?_
  clear eq1
  refine zz_J.n 33 rfl rfl rfl ?_
  refine zz_J.g 36 rfl (hR.gv (v := .ref (kD t (x0 + 8))) (ko_P e0) (by decide) rfl) rfl ?_
  refine zz_J.n 37 rfl rfl rfl ?_
  refine zz_J.g 40 rfl (hR.gv (v := .int (kI t x0 4)) (ko_P e0) (by decide) rfl) rfl ?_
  refine zz_J.n 41 rfl rfl rfl ?_
  obtain ⟨h1, eq1, hR⟩ := hR.si (x := x3) (ka_P8 e0) rfl e3
  refine zz_J.si 42 rfl eq1 rfl ?_
  clear eq1
  refine zz_J.n 43 rfl rfl rfl ?_
  refine zz_J.n 44 rfl rfl rfl ?_
  refine zz_J.g 47 rfl (hR.gv (v := .int (kI t x0 4)) (ko_P e0) (by decide) rfl) rfl ?_
  refine zz_J.c 48 (.int 1) rfl rfl rfl rfl ?_
  refine zz_J.n 49 rfl rfl rfl ?_
  obtain ⟨h1, eq1, hR⟩ := hR.pI (x := ((kI t x0 4) + 1)) (kP_lt e0) (ko_P e0) (kpi_P_4 e0 _) (Nat.le_of_ble_eq_true rfl) rfl
  refine zz_J.pv 52 rfl eq1 rfl ?_
  clear eq1
  exact zz_J.weak (k hR) rfl trivial
theorem cb_206_52 {X : Nat → Option zz_C} {h : zz_H} {t : cS} {s : mS} {d : Nat} {Q : zz_O → zz_H → Prop}  (hR : kR h t s) (k : ∀ {h : zz_H}, kR h t s → Q (.inl none) h) : zz_J zp_P zt_tf zt_fd X d zm_206 52 [] [] h Q := by
  refine zz_J.ret rfl rfl rfl ?_
  exact k hR
def cf_206_52 (N : Nat) (X : Nat → Option zz_C)  (t : cS) : kO := some (t, .inl none)
theorem cr_206_52 {X : Nat → Option zz_C} {s : mS} {N : Nat} {d : Nat} (hd : 0 ≤ d) {Q : zz_O → zz_H → Prop}  {h : zz_H} {t t' : cS} {o : kY} (hR : kR h t s) (hf : cf_206_52 N X  t = some (t', o)) (k : (∀ h', kR h' t' s → kE o Q h')) : zz_J zp_P zt_tf zt_fd X d zm_206 52 [] [] h Q := by
  unfold cf_206_52 at hf
  cases hf
  exact cb_206_52 hR  (fun {h} hR => k h hR)
def cf_206_9 (N : Nat) (X : Nat → Option zz_C) (x0 : Nat) (x1 : Int64) (x3 : Int32) (t : cS) : kO := if x0 = 12 ∨ x0 = 21 then (if ¬ ((kI t x0 4) < 0 ∨ (kB t (x0 + 4)).1 ≤ (Int32.toNatClampNeg (kI t x0 4))) then (if ¬ ((kI t x0 4) < 0 ∨ (kA t (x0 + 5)).1 ≤ (Int32.toNatClampNeg (kI t x0 4))) then (if ¬ ((kI t x0 4) < 0 ∨ (kA (jA (jB t (x0 + 4) (vp_updL (kB t (x0 + 4)).2 (Int32.toNatClampNeg (kI t x0 4)) x1)) (x0 + 5) (upd (kA t (x0 + 5)).2 (Int32.toNatClampNeg (kI t x0 4)) (kI t x0 3))) (x0 + 8)).1 ≤ (Int32.toNatClampNeg (kI t x0 4))) then (cf_206_52 N X  (jI (jA (jA (jB t (x0 + 4) (vp_updL (kB t (x0 + 4)).2 (Int32.toNatClampNeg (kI t x0 4)) x1)) (x0 + 5) (upd (kA t (x0 + 5)).2 (Int32.toNatClampNeg (kI t x0 4)) (kI t x0 3))) (x0 + 8) (upd (kA (jA (jB t (x0 + 4) (vp_updL (kB t (x0 + 4)).2 (Int32.toNatClampNeg (kI t x0 4)) x1)) (x0 + 5) (upd (kA t (x0 + 5)).2 (Int32.toNatClampNeg (kI t x0 4)) (kI t x0 3))) (x0 + 8)).2 (Int32.toNatClampNeg (kI t x0 4)) x3)) x0 4 ((kI t x0 4) + 1))) else none) else none) else none) else none
theorem cr_206_9 {X : Nat → Option zz_C} {s : mS} {N : Nat} {d : Nat} (hd : 0 ≤ d) {Q : zz_O → zz_H → Prop} {x0 : Nat} {x1 : Int64} {x3 : Int32} {h : zz_H} {t t' : cS} {o : kY} (hR : kR h t s) (hf : cf_206_9 N X x0 x1 x3 t = some (t', o)) (k : (∀ h', kR h' t' s → kE o Q h')) : zz_J zp_P zt_tf zt_fd X d zm_206 9 [(0, .ref x0), (1, .long x1), (3, .int x3)] [] h Q := by
  unfold cf_206_9 at hf
  obtain ⟨e0, hf⟩ := ko_if hf
  obtain ⟨e1, hf⟩ := ko_if hf
  obtain ⟨e2, hf⟩ := ko_if hf
  obtain ⟨e3, hf⟩ := ko_if hf
  exact cb_206_9 hR e0 e1 e2 e3 (fun hR => cr_206_52 hd hR hf k)
def cf_206_0 (N : Nat) (X : Nat → Option zz_C) (x0 : Nat) (x1 : Int64) (x3 : Int32) (t : cS) : kO := if x0 = 12 ∨ x0 = 21 then (if 12 ≤ (kI t x0 4) then cf_206_52 N X  t else cf_206_9 N X x0 x1 x3 t) else none
theorem cr_206_0 {X : Nat → Option zz_C} {s : mS} {N : Nat} {d : Nat} (hd : 0 ≤ d) {Q : zz_O → zz_H → Prop} {x0 : Nat} {x1 : Int64} {x3 : Int32} {h : zz_H} {t t' : cS} {o : kY} (hR : kR h t s) (hf : cf_206_0 N X x0 x1 x3 t = some (t', o)) (k : (∀ h', kR h' t' s → kE o Q h')) : zz_J zp_P zt_tf zt_fd X d zm_206 0 [(0, .ref x0), (1, .long x1), (3, .int x3)] [] h Q := by
  unfold cf_206_0 at hf
  obtain ⟨e0, hf⟩ := ko_if hf
  refine cb_206_0 hR e0 (fun c {h} hR => ?_) (fun c {h} hR => ?_)
  · rw [if_pos c] at hf
    exact cr_206_52 hd hR hf k
  · rw [if_neg c] at hf
    exact cr_206_9 hd hR hf k
/-- beginFunction -/
def cf_206 (N : Nat) (X : Nat → Option zz_C) (x0 : Nat) (x1 : Int64) (x3 : Int32) (t : cS) : kO := cf_206_0 N X x0 x1 x3 t
theorem cr_206 {X : Nat → Option zz_C} {s : mS} {N : Nat} {d : Nat} (hd : 0 ≤ d) {Q : zz_O → zz_H → Prop} {x0 : Nat} {x1 : Int64} {x3 : Int32} {h : zz_H} {t t' : cS} {o : kY} (hR : kR h t s) (hf : cf_206 N X x0 x1 x3 t = some (t', o)) (k : ∀ h', kR h' t' s → kE o Q h') : zz_J zp_P zt_tf zt_fd X d zm_206 0 [(0, .ref x0), (1, .long x1), (3, .int x3)] [] h Q := by
  unfold cf_206 at hf
  exact zz_J.weak (cr_206_0 hd hR hf k) rfl ⟨rfl, rfl, rfl, trivial⟩
/-! yX10_valueNow ()J -/
theorem cb_244_0 {X : Nat → Option zz_C} {h : zz_H} {t : cS} {s : mS} {d : Nat} {Q : zz_O → zz_H → Prop}  (hR : kR h t s) (k : ∀ {h : zz_H}, kR h t s → Q (.inl (some (.long (kL t 3 7)))) h) : zz_J zp_P zt_tf zt_fd X d zm_244 0 [(0, .ref 3)] [] h Q := by
  refine zz_J.n 1 rfl rfl rfl ?_
  refine zz_J.g 4 rfl (hR.gv (v := .long (kL t 3 7)) ko_3 (by decide) rfl) rfl ?_
  refine zz_J.ret rfl rfl rfl ?_
  exact k hR
def cf_244_0 (N : Nat) (X : Nat → Option zz_C)  (t : cS) : kO := some (t, .inl (some (.long (kL t 3 7))))
theorem cr_244_0 {X : Nat → Option zz_C} {s : mS} {N : Nat} {d : Nat} (hd : 0 ≤ d) {Q : zz_O → zz_H → Prop}  {h : zz_H} {t t' : cS} {o : kY} (hR : kR h t s) (hf : cf_244_0 N X  t = some (t', o)) (k : (∀ h', kR h' t' s → kE o Q h')) : zz_J zp_P zt_tf zt_fd X d zm_244 0 [(0, .ref 3)] [] h Q := by
  unfold cf_244_0 at hf
  cases hf
  exact cb_244_0 hR  (fun {h} hR => k h hR)
/-- valueNow -/
def cf_244 (N : Nat) (X : Nat → Option zz_C)  (t : cS) : kO := cf_244_0 N X  t
theorem cr_244 {X : Nat → Option zz_C} {s : mS} {N : Nat} {d : Nat} (hd : 0 ≤ d) {Q : zz_O → zz_H → Prop}  {h : zz_H} {t t' : cS} {o : kY} (hR : kR h t s) (hf : cf_244 N X  t = some (t', o)) (k : ∀ h', kR h' t' s → kE o Q h') : zz_J zp_P zt_tf zt_fd X d zm_244 0 [(0, .ref 3)] [] h Q := by
  unfold cf_244 at hf
  exact zz_J.weak (cr_244_0 hd hR hf k) rfl ⟨rfl, trivial⟩
/-! yX10_advance ()V -/
theorem cb_46_0 {X : Nat → Option zz_C} {h : zz_H} {t : cS} {s : mS} {d : Nat} {Q : zz_O → zz_H → Prop}  (hR : kR h t s) (k1 : (if ((kI t 3 3) - 1) < (((kI t 3 4) + 1) : Int32) then ((kI t 3 3) - 1) else ((kI t 3 4) + 1)) < 0 → (∀ {h : zz_H}, kR h (jI t 3 4 (if ((kI t 3 3) - 1) < (((kI t 3 4) + 1) : Int32) then ((kI t 3 3) - 1) else ((kI t 3 4) + 1))) s → zz_J zp_P zt_tf zt_fd X (d + 1) zm_46 76 [] [] h Q)) (k2 : ¬ (if ((kI t 3 3) - 1) < (((kI t 3 4) + 1) : Int32) then ((kI t 3 3) - 1) else ((kI t 3 4) + 1)) < 0 → (∀ {h : zz_H}, kR h (jI t 3 4 (if ((kI t 3 3) - 1) < (((kI t 3 4) + 1) : Int32) then ((kI t 3 3) - 1) else ((kI t 3 4) + 1))) s → zz_J zp_P zt_tf zt_fd X (d + 1) zm_46 26 [(0, .ref 3)] [] h Q)) : zz_J zp_P zt_tf zt_fd X (d + 1) zm_46 0 [(0, .ref 3)] [] h Q := by
  refine zz_J.n 1 rfl rfl rfl ?_
  refine zz_J.n 2 rfl rfl rfl ?_
  refine zz_J.g 5 rfl (hR.gv (v := .int (kI t 3 4)) ko_3 (by decide) rfl) rfl ?_
  refine zz_J.c 6 (.int 1) rfl rfl rfl rfl ?_
  refine zz_J.n 7 rfl rfl rfl ?_
  refine zz_J.n 8 rfl rfl rfl ?_
  refine zz_J.g 11 rfl (hR.gv (v := .int (kI t 3 3)) ko_3 (by decide) rfl) rfl ?_
  refine zz_J.c 12 (.int 1) rfl rfl rfl rfl ?_
  refine zz_J.n 13 rfl rfl rfl ?_
  refine zz_J.spec 16 rfl rfl (by decide) rfl rfl rfl ?_
  obtain ⟨h1, eq1, hR⟩ := hR.pI (x := (if ((kI t 3 3) - 1) < (((kI t 3 4) + 1) : Int32) then ((kI t 3 3) - 1) else ((kI t 3 4) + 1))) (by decide) ko_3 (kpi_3_4 _) (Nat.le_of_ble_eq_true rfl) rfl
  refine zz_J.pv 19 rfl eq1 rfl ?_
  clear eq1
  refine zz_J.n 20 rfl rfl rfl ?_
  refine zz_J.g 23 rfl (hR.gv (v := .int (if ((kI t 3 3) - 1) < (((kI t 3 4) + 1) : Int32) then ((kI t 3 3) - 1) else ((kI t 3 4) + 1))) ko_3 (by decide) rfl) rfl ?_
  refine zz_J.b1 76 26 (A := (if ((kI t 3 3) - 1) < (((kI t 3 4) + 1) : Int32) then ((kI t 3 3) - 1) else ((kI t 3 4) + 1)) < 0) rfl rfl (by decide) rfl rfl (fun c => ?_) (fun c => ?_)
  · exact zz_J.weak (k1 c hR) rfl trivial
  · exact zz_J.weak (k2 c hR) rfl ⟨rfl, trivial⟩
theorem cb_46_26 {X : Nat → Option zz_C} {h : zz_H} {t : cS} {s : mS} {d : Nat} {Q : zz_O → zz_H → Prop}  (hR : kR h t s) (k1 : (kI t 3 3) ≤ (kI t 3 4) → (∀ {h : zz_H}, kR h t s → zz_J zp_P zt_tf zt_fd X d zm_46 76 [] [] h Q)) (k2 : ¬ (kI t 3 3) ≤ (kI t 3 4) → (∀ {h : zz_H}, kR h t s → zz_J zp_P zt_tf zt_fd X d zm_46 37 [(0, .ref 3)] [] h Q)) : zz_J zp_P zt_tf zt_fd X d zm_46 26 [(0, .ref 3)] [] h Q := by
  refine zz_J.n 27 rfl rfl rfl ?_
  refine zz_J.g 30 rfl (hR.gv (v := .int (kI t 3 4)) ko_3 (by decide) rfl) rfl ?_
  refine zz_J.n 31 rfl rfl rfl ?_
  refine zz_J.g 34 rfl (hR.gv (v := .int (kI t 3 3)) ko_3 (by decide) rfl) rfl ?_
  refine zz_J.b2 76 37 (A := (kI t 3 3) ≤ (kI t 3 4)) rfl rfl (by decide) rfl rfl (fun c => ?_) (fun c => ?_)
  · exact zz_J.weak (k1 c hR) rfl trivial
  · exact zz_J.weak (k2 c hR) rfl ⟨rfl, trivial⟩
theorem cb_46_37 {X : Nat → Option zz_C} {h : zz_H} {t : cS} {s : mS} {d : Nat} {Q : zz_O → zz_H → Prop}  (hR : kR h t s) (e0 : ¬ ((kI t 3 4) < 0 ∨ (kA t 4).1 ≤ (Int32.toNatClampNeg (kI t 3 4)))) (e1 : ¬ ((kI t 3 4) < 0 ∨ (kA t 5).1 ≤ (Int32.toNatClampNeg (kI t 3 4)))) (e2 : ¬ ((kI t 3 4) < 0 ∨ (kB t 6).1 ≤ (Int32.toNatClampNeg (kI t 3 4)))) (k : ∀ {h : zz_H}, kR h (jL (jI (jI t 3 5 ((kA t 4).2 (Int32.toNatClampNeg (kI t 3 4)))) 3 6 ((kA t 5).2 (Int32.toNatClampNeg (kI t 3 4)))) 3 7 ((kB t 6).2 (Int32.toNatClampNeg (kI t 3 4)))) s → zz_J zp_P zt_tf zt_fd X d zm_46 76 [] [] h Q) : zz_J zp_P zt_tf zt_fd X d zm_46 37 [(0, .ref 3)] [] h Q := by
  refine zz_J.n 38 rfl rfl rfl ?_
  refine zz_J.n 39 rfl rfl rfl ?_
  refine zz_J.g 42 rfl (hR.gv (v := .ref (kD t 4)) ko_3 (by decide) rfl) rfl ?_
  refine zz_J.n 43 rfl rfl rfl ?_
  refine zz_J.g 46 rfl (hR.gv (v := .int (kI t 3 4)) ko_3 (by decide) rfl) rfl ?_
  refine zz_J.ai 47 rfl (hR.ai (w := ((kA t 4).2 (Int32.toNatClampNeg (kI t 3 4)))) ka_4 rfl e0 rfl) rfl ?_
  obtain ⟨h1, eq1, hR⟩ := hR.pI (x := ((kA t 4).2 (Int32.toNatClampNeg (kI t 3 4)))) (by decide) ko_3 (kpi_3_5 _) (Nat.le_of_ble_eq_true rfl) rfl
  refine zz_J.pv 50 rfl eq1 rfl ?_
  clear eq1
  refine zz_J.n 51 rfl rfl rfl ?_
  refine zz_J.n 52 rfl rfl rfl ?_
  refine zz_J.g 55 rfl (hR.gv (v := .ref (kD t 5)) ko_3 (by decide) rfl) rfl ?_
  refine zz_J.n 56 rfl rfl rfl ?_
  refine zz_J.g 59 rfl (hR.gv (v := .int (kI t 3 4)) ko_3 (by decide) rfl) rfl ?_
  refine zz_J.ai 60 rfl (hR.ai (w := ((kA t 5).2 (Int32.toNatClampNeg (kI t 3 4)))) ka_5 rfl e1 rfl) rfl ?_
  obtain ⟨h1, eq1, hR⟩ := hR.pI (x := ((kA t 5).2 (Int32.toNatClampNeg (kI t 3 4)))) (by decide) ko_3 (kpi_3_6 _) (Nat.le_of_ble_eq_true rfl) rfl
  refine zz_J.pv 63 rfl eq1 rfl ?_
  clear eq1
  refine zz_J.n 64 rfl rfl rfl ?_
  refine zz_J.n 65 rfl rfl rfl ?_
  refine zz_J.g 68 rfl (hR.gv (v := .ref (kD t 6)) ko_3 (by decide) rfl) rfl ?_
  refine zz_J.n 69 rfl rfl rfl ?_
  refine zz_J.g 72 rfl (hR.gv (v := .int (kI t 3 4)) ko_3 (by decide) rfl) rfl ?_
  refine zz_J.al 73 rfl (hR.al (w := ((kB t 6).2 (Int32.toNatClampNeg (kI t 3 4)))) ka_6 rfl e2 rfl) rfl ?_
  obtain ⟨h1, eq1, hR⟩ := hR.pL (x := ((kB t 6).2 (Int32.toNatClampNeg (kI t 3 4)))) (by decide) ko_3 (kpi_3_7 _) (Nat.le_of_ble_eq_true rfl) rfl
  refine zz_J.pv 76 rfl eq1 rfl ?_
  clear eq1
  exact zz_J.weak (k hR) rfl trivial
theorem cb_46_76 {X : Nat → Option zz_C} {h : zz_H} {t : cS} {s : mS} {d : Nat} {Q : zz_O → zz_H → Prop}  (hR : kR h t s) (k : ∀ {h : zz_H}, kR h t s → Q (.inl none) h) : zz_J zp_P zt_tf zt_fd X d zm_46 76 [] [] h Q := by
  refine zz_J.ret rfl rfl rfl ?_
  exact k hR
def cf_46_76 (N : Nat) (X : Nat → Option zz_C)  (t : cS) : kO := some (t, .inl none)
theorem cr_46_76 {X : Nat → Option zz_C} {s : mS} {N : Nat} {d : Nat} (hd : 1 ≤ d) {Q : zz_O → zz_H → Prop}  {h : zz_H} {t t' : cS} {o : kY} (hR : kR h t s) (hf : cf_46_76 N X  t = some (t', o)) (k : (∀ h', kR h' t' s → kE o Q h')) : zz_J zp_P zt_tf zt_fd X d zm_46 76 [] [] h Q := by
  unfold cf_46_76 at hf
  cases hf
  exact cb_46_76 hR  (fun {h} hR => k h hR)
def cf_46_37 (N : Nat) (X : Nat → Option zz_C)  (t : cS) : kO := if ¬ ((kI t 3 4) < 0 ∨ (kA t 4).1 ≤ (Int32.toNatClampNeg (kI t 3 4))) then (if ¬ ((kI t 3 4) < 0 ∨ (kA t 5).1 ≤ (Int32.toNatClampNeg (kI t 3 4))) then (if ¬ ((kI t 3 4) < 0 ∨ (kB t 6).1 ≤ (Int32.toNatClampNeg (kI t 3 4))) then (cf_46_76 N X  (jL (jI (jI t 3 5 ((kA t 4).2 (Int32.toNatClampNeg (kI t 3 4)))) 3 6 ((kA t 5).2 (Int32.toNatClampNeg (kI t 3 4)))) 3 7 ((kB t 6).2 (Int32.toNatClampNeg (kI t 3 4))))) else none) else none) else none
theorem cr_46_37 {X : Nat → Option zz_C} {s : mS} {N : Nat} {d : Nat} (hd : 1 ≤ d) {Q : zz_O → zz_H → Prop}  {h : zz_H} {t t' : cS} {o : kY} (hR : kR h t s) (hf : cf_46_37 N X  t = some (t', o)) (k : (∀ h', kR h' t' s → kE o Q h')) : zz_J zp_P zt_tf zt_fd X d zm_46 37 [(0, .ref 3)] [] h Q := by
  unfold cf_46_37 at hf
  obtain ⟨e0, hf⟩ := ko_if hf
  obtain ⟨e1, hf⟩ := ko_if hf
  obtain ⟨e2, hf⟩ := ko_if hf
  exact cb_46_37 hR e0 e1 e2 (fun hR => cr_46_76 hd hR hf k)
def cf_46_26 (N : Nat) (X : Nat → Option zz_C)  (t : cS) : kO := if (kI t 3 3) ≤ (kI t 3 4) then cf_46_76 N X  t else cf_46_37 N X  t
theorem cr_46_26 {X : Nat → Option zz_C} {s : mS} {N : Nat} {d : Nat} (hd : 1 ≤ d) {Q : zz_O → zz_H → Prop}  {h : zz_H} {t t' : cS} {o : kY} (hR : kR h t s) (hf : cf_46_26 N X  t = some (t', o)) (k : (∀ h', kR h' t' s → kE o Q h')) : zz_J zp_P zt_tf zt_fd X d zm_46 26 [(0, .ref 3)] [] h Q := by
  unfold cf_46_26 at hf
  refine cb_46_26 hR  (fun c {h} hR => ?_) (fun c {h} hR => ?_)
  · rw [if_pos c] at hf
    exact cr_46_76 hd hR hf k
  · rw [if_neg c] at hf
    exact cr_46_37 hd hR hf k
def cf_46_0 (N : Nat) (X : Nat → Option zz_C)  (t : cS) : kO := if (if ((kI t 3 3) - 1) < (((kI t 3 4) + 1) : Int32) then ((kI t 3 3) - 1) else ((kI t 3 4) + 1)) < 0 then cf_46_76 N X  (jI t 3 4 (if ((kI t 3 3) - 1) < (((kI t 3 4) + 1) : Int32) then ((kI t 3 3) - 1) else ((kI t 3 4) + 1))) else cf_46_26 N X  (jI t 3 4 (if ((kI t 3 3) - 1) < (((kI t 3 4) + 1) : Int32) then ((kI t 3 3) - 1) else ((kI t 3 4) + 1)))
theorem cr_46_0 {X : Nat → Option zz_C} {s : mS} {N : Nat} {d : Nat} (hd : 1 ≤ d) {Q : zz_O → zz_H → Prop}  {h : zz_H} {t t' : cS} {o : kY} (hR : kR h t s) (hf : cf_46_0 N X  t = some (t', o)) (k : (∀ h', kR h' t' s → kE o Q h')) : zz_J zp_P zt_tf zt_fd X d zm_46 0 [(0, .ref 3)] [] h Q := by
  unfold cf_46_0 at hf
  obtain ⟨d', rfl⟩ : ∃ d', d = d' + 1 := ⟨d - 1, by omega⟩
  refine cb_46_0 hR  (fun c {h} hR => ?_) (fun c {h} hR => ?_)
  · rw [if_pos c] at hf
    exact cr_46_76 hd hR hf k
  · rw [if_neg c] at hf
    exact cr_46_26 hd hR hf k
/-- advance -/
def cf_46 (N : Nat) (X : Nat → Option zz_C)  (t : cS) : kO := cf_46_0 N X  t
theorem cr_46 {X : Nat → Option zz_C} {s : mS} {N : Nat} {d : Nat} (hd : 1 ≤ d) {Q : zz_O → zz_H → Prop}  {h : zz_H} {t t' : cS} {o : kY} (hR : kR h t s) (hf : cf_46 N X  t = some (t', o)) (k : ∀ h', kR h' t' s → kE o Q h') : zz_J zp_P zt_tf zt_fd X d zm_46 0 [(0, .ref 3)] [] h Q := by
  unfold cf_46 at hf
  exact zz_J.weak (cr_46_0 hd hR hf k) rfl ⟨rfl, trivial⟩
/-! yX5_functionName ()V -/
theorem cb_174_0 {X : Nat → Option zz_C} {h : zz_H} {t : cS} {s : mS} {d : Nat} {Q : zz_O → zz_H → Prop}  (hR : kR h t s) (k : ∀ {h : zz_H}, kR h t s → zz_J zp_P zt_tf zt_fd X d zm_42 0 [(0, .ref 3)] [] h (zz_after 10 Q (fun v h' => zz_J zp_P zt_tf zt_fd X (d + 1) zm_174 8 [(0, .ref 2)] (v.toList ++ [.ref 2]) h' Q))) : zz_J zp_P zt_tf zt_fd X (d + 1) zm_174 0 [(0, .ref 2)] [] h Q := by
  refine zz_J.n 1 rfl rfl rfl ?_
  refine zz_J.n 2 rfl rfl rfl ?_
  refine zz_J.g 5 rfl (hR.gv (v := .ref 3) ko_2 (by decide) rfl) rfl ?_
  refine zz_J.cv 8 (as := [.ref 2]) rfl rfl (hR.clO ko_3 (by decide) (by decide)) (by decide) (Nat.le_of_ble_eq_true rfl) (Nat.le_of_ble_eq_true rfl) rfl (Nat.le_of_ble_eq_true rfl) rfl ?_
  refine zz_J.mono (k hR) ?_
  intro o h' hE
  cases o with
  | inl v => exact zz_J.weak hE rfl ⟨rfl, trivial⟩
  | inr q => exact hE
theorem cb_174_8 {X : Nat → Option zz_C} {h : zz_H} {t : cS} {s : mS} {d : Nat} {Q : zz_O → zz_H → Prop} {y1 : Int32} (hR : kR h t s) (k1 : ¬ y1 = 3 → (∀ {h : zz_H}, kR h t s → zz_J zp_P zt_tf zt_fd X d zm_174 16 [(0, .ref 2)] [.ref 2] h Q)) (k2 : ¬ ¬ y1 = 3 → (∀ {h : zz_H}, kR h t s → zz_J zp_P zt_tf zt_fd X d zm_174 12 [(0, .ref 2)] [.ref 2] h Q)) : zz_J zp_P zt_tf zt_fd X d zm_174 8 [(0, .ref 2)] [.int y1, .ref 2] h Q := by
  refine zz_J.c 9 (.int 3) rfl rfl rfl rfl ?_
  refine zz_J.b2 16 12 (A := ¬ y1 = 3) rfl (zz_cond_ne _ _) (by decide) rfl rfl (fun c => ?_) (fun c => ?_)
  · exact zz_J.weak (k1 c hR) rfl ⟨rfl, trivial⟩
  · exact zz_J.weak (k2 c hR) rfl ⟨rfl, trivial⟩
theorem cb_174_12 {X : Nat → Option zz_C} {h : zz_H} {t : cS} {s : mS} {d : Nat} {Q : zz_O → zz_H → Prop}  (hR : kR h t s) (k : ∀ {h : zz_H}, kR h t s → zz_J zp_P zt_tf zt_fd X d zm_174 17 [(0, .ref 2)] [.int 1, .ref 2] h Q) : zz_J zp_P zt_tf zt_fd X d zm_174 12 [(0, .ref 2)] [.ref 2] h Q := by
  refine zz_J.c 13 (.int 1) rfl rfl rfl rfl ?_
  refine zz_J.n 17 rfl rfl rfl ?_
  exact zz_J.weak (k hR) rfl ⟨rfl, trivial⟩
theorem cb_174_16 {X : Nat → Option zz_C} {h : zz_H} {t : cS} {s : mS} {d : Nat} {Q : zz_O → zz_H → Prop}  (hR : kR h t s) (k : ∀ {h : zz_H}, kR h t s → zz_J zp_P zt_tf zt_fd X d zm_174 17 [(0, .ref 2)] [.int 0, .ref 2] h Q) : zz_J zp_P zt_tf zt_fd X d zm_174 16 [(0, .ref 2)] [.ref 2] h Q := by
  refine zz_J.c 17 (.int 0) rfl rfl rfl rfl ?_
  exact zz_J.weak (k hR) rfl ⟨rfl, trivial⟩
theorem cb_174_17 {X : Nat → Option zz_C} {h : zz_H} {t : cS} {s : mS} {d : Nat} {Q : zz_O → zz_H → Prop} {y1 : Int32} (hR : kR h t s) (k : ∀ {h : zz_H}, kR h t s → zz_J zp_P zt_tf zt_fd X d zm_202 0 [(0, .ref 2), (1, .int y1), (2, .int 2)] [] h (zz_after 5 Q (fun v h' => zz_J zp_P zt_tf zt_fd X (d + 1) zm_174 21 [(0, .ref 2)] (v.toList ++ []) h' Q))) : zz_J zp_P zt_tf zt_fd X (d + 1) zm_174 17 [(0, .ref 2)] [.int y1, .ref 2] h Q := by
  refine zz_J.c 18 (.int 2) rfl rfl rfl rfl ?_
  refine zz_J.cv 21 (as := []) rfl rfl (hR.clO ko_2 (by decide) (by decide)) (by decide) (Nat.le_of_ble_eq_true rfl) (Nat.le_of_ble_eq_true rfl) rfl (Nat.le_of_ble_eq_true rfl) rfl ?_
  refine zz_J.mono (k hR) ?_
  intro o h' hE
  cases o with
  | inl v => exact zz_J.weak hE rfl ⟨rfl, trivial⟩
  | inr q => exact hE
theorem cb_174_21 {X : Nat → Option zz_C} {h : zz_H} {t : cS} {s : mS} {d : Nat} {Q : zz_O → zz_H → Prop}  (hR : kR h t s) (k : ∀ {h : zz_H}, kR h t s → zz_J zp_P zt_tf zt_fd X d zm_244 0 [(0, .ref 3)] [] h (zz_after 10 Q (fun v h' => zz_J zp_P zt_tf zt_fd X (d + 1) zm_174 28 [(0, .ref 2)] (v.toList ++ []) h' Q))) : zz_J zp_P zt_tf zt_fd X (d + 1) zm_174 21 [(0, .ref 2)] [] h Q := by
  refine zz_J.n 22 rfl rfl rfl ?_
  refine zz_J.g 25 rfl (hR.gv (v := .ref 3) ko_2 (by decide) rfl) rfl ?_
  refine zz_J.cv 28 (as := []) rfl rfl (hR.clO ko_3 (by decide) (by decide)) (by decide) (Nat.le_of_ble_eq_true rfl) (Nat.le_of_ble_eq_true rfl) rfl (Nat.le_of_ble_eq_true rfl) rfl ?_
  refine zz_J.mono (k hR) ?_
  intro o h' hE
  cases o with
  | inl v => exact zz_J.weak hE rfl ⟨rfl, trivial⟩
  | inr q => exact hE
theorem cb_174_28 {X : Nat → Option zz_C} {h : zz_H} {t : cS} {s : mS} {d : Nat} {Q : zz_O → zz_H → Prop} {y0 : Int64} (hR : kR h t s) {w0 : Nat} (e0 : (kP t 2 1) = some w0) (e1 : w0 = 12 ∨ w0 = 21) (k : ∀ {h : zz_H}, kR h t s → zz_J zp_P zt_tf zt_fd X d zm_32 0 [(0, .ref w0)] [] h (zz_after 6 Q (fun v h' => zz_J zp_P zt_tf zt_fd X (d + 1) zm_174 37 [(0, .ref 2), (1, .long y0)] (v.toList ++ [.ref 2]) h' Q))) : zz_J zp_P zt_tf zt_fd X (d + 1) zm_174 28 [(0, .ref 2)] [.long y0] h Q := by
  refine zz_J.n 29 rfl rfl rfl ?_
  refine zz_J.n 30 rfl rfl rfl ?_
  refine zz_J.n 31 rfl rfl rfl ?_
  refine zz_J.g 34 rfl (hR.gv (v := .ref w0) ko_2 (by decide) ((congrArg (fun q => some (zz_rv q)) e0).trans rfl)) rfl ?_
  refine zz_J.cv 37 (as := [.ref 2]) rfl rfl (hR.clO (ko_P e1) (by decide) (by decide)) (by decide) (Nat.le_of_ble_eq_true rfl) (Nat.le_of_ble_eq_true rfl) rfl (Nat.le_of_ble_eq_true rfl) rfl ?_
  refine zz_J.mono (k hR) ?_
  intro o h' hE
  cases o with
  | inl v => exact zz_J.weak hE rfl ⟨rfl, rfl, trivial⟩
  | inr q => exact hE
theorem cb_174_37 {X : Nat → Option zz_C} {h : zz_H} {t : cS} {s : mS} {d : Nat} {Q : zz_O → zz_H → Prop} {x1 : Int64} {y1 : Int32} (hR : kR h t s) (k1 : 12 ≤ y1 → (∀ {h : zz_H}, kR h t s → zz_J zp_P zt_tf zt_fd X d zm_174 46 [(0, .ref 2), (1, .long x1)] [.ref 2] h Q)) (k2 : ¬ 12 ≤ y1 → (∀ {h : zz_H}, kR h t s → zz_J zp_P zt_tf zt_fd X d zm_174 42 [(0, .ref 2), (1, .long x1)] [.ref 2] h Q)) : zz_J zp_P zt_tf zt_fd X d zm_174 37 [(0, .ref 2), (1, .long x1)] [.int y1, .ref 2] h Q := by
  refine zz_J.c 39 (.int 12) rfl rfl rfl rfl ?_
  refine zz_J.b2 46 42 (A := 12 ≤ y1) rfl rfl (by decide) rfl rfl (fun c => ?_) (fun c => ?_)
  · exact zz_J.weak (k1 c hR) rfl ⟨rfl, rfl, trivial⟩
  · exact zz_J.weak (k2 c hR) rfl ⟨rfl, rfl, trivial⟩
theorem cb_174_42 {X : Nat → Option zz_C} {h : zz_H} {t : cS} {s : mS} {d : Nat} {Q : zz_O → zz_H → Prop} {x1 : Int64} (hR : kR h t s) (k : ∀ {h : zz_H}, kR h t s → zz_J zp_P zt_tf zt_fd X d zm_174 47 [(0, .ref 2), (1, .long x1)] [.int 1, .ref 2] h Q) : zz_J zp_P zt_tf zt_fd X d zm_174 42 [(0, .ref 2), (1, .long x1)] [.ref 2] h Q := by
  refine zz_J.c 43 (.int 1) rfl rfl rfl rfl ?_
  refine zz_J.n 47 rfl rfl rfl ?_
  exact zz_J.weak (k hR) rfl ⟨rfl, rfl, trivial⟩
theorem cb_174_46 {X : Nat → Option zz_C} {h : zz_H} {t : cS} {s : mS} {d : Nat} {Q : zz_O → zz_H → Prop} {x1 : Int64} (hR : kR h t s) (k : ∀ {h : zz_H}, kR h t s → zz_J zp_P zt_tf zt_fd X d zm_174 47 [(0, .ref 2), (1, .long x1)] [.int 0, .ref 2] h Q) : zz_J zp_P zt_tf zt_fd X d zm_174 46 [(0, .ref 2), (1, .long x1)] [.ref 2] h Q := by
  refine zz_J.c 47 (.int 0) rfl rfl rfl rfl ?_
  exact zz_J.weak (k hR) rfl ⟨rfl, rfl, trivial⟩
theorem cb_174_47 {X : Nat → Option zz_C} {h : zz_H} {t : cS} {s : mS} {d : Nat} {Q : zz_O → zz_H → Prop} {x1 : Int64} {y1 : Int32} (hR : kR h t s) (k : ∀ {h : zz_H}, kR h t s → zz_J zp_P zt_tf zt_fd X d zm_202 0 [(0, .ref 2), (1, .int y1), (2, .int 3)] [] h (zz_after 5 Q (fun v h' => zz_J zp_P zt_tf zt_fd X (d + 1) zm_174 51 [(0, .ref 2), (1, .long x1)] (v.toList ++ []) h' Q))) : zz_J zp_P zt_tf zt_fd X (d + 1) zm_174 47 [(0, .ref 2), (1, .long x1)] [.int y1, .ref 2] h Q := by
  refine zz_J.c 48 (.int 3) rfl rfl rfl rfl ?_
  refine zz_J.cv 51 (as := []) rfl rfl (hR.clO ko_2 (by decide) (by decide)) (by decide) (Nat.le_of_ble_eq_true rfl) (Nat.le_of_ble_eq_true rfl) rfl (Nat.le_of_ble_eq_true rfl) rfl ?_
  refine zz_J.mono (k hR) ?_
  intro o h' hE
  cases o with
  | inl v => exact zz_J.weak hE rfl ⟨rfl, rfl, trivial⟩
  | inr q => exact hE
theorem cb_174_51 {X : Nat → Option zz_C} {h : zz_H} {t : cS} {s : mS} {d : Nat} {Q : zz_O → zz_H → Prop} {x1 : Int64} (hR : kR h t s) (k : ∀ {h : zz_H}, kR h t s → zz_J zp_P zt_tf zt_fd X d zm_197 0 [(0, .long x1)] [] h (zz_after 0 Q (fun v h' => zz_J zp_P zt_tf zt_fd X (d + 1) zm_174 56 [(0, .ref 2), (1, .long x1)] (v.toList ++ [.ref 2]) h' Q))) : zz_J zp_P zt_tf zt_fd X (d + 1) zm_174 51 [(0, .ref 2), (1, .long x1)] [] h Q := by
  refine zz_J.n 52 rfl rfl rfl ?_
  refine zz_J.n 53 rfl rfl rfl ?_
  refine zz_J.cl (M' := zm_197) 56 rfl rfl (by decide) rfl rfl ⟨rfl, Nat.le_of_ble_eq_true rfl⟩ rfl ?_
  refine zz_J.mono (k hR) ?_
  intro o h' hE
  cases o with
  | inl v => exact zz_J.weak hE rfl ⟨rfl, rfl, trivial⟩
  | inr q => exact hE
theorem cb_174_56 {X : Nat → Option zz_C} {h : zz_H} {t : cS} {s : mS} {d : Nat} {Q : zz_O → zz_H → Prop} {x1 : Int64} {y1 : Int32} (hR : kR h t s) (k1 : ¬ y1 = 0 → (∀ {h : zz_H}, kR h t s → zz_J zp_P zt_tf zt_fd X d zm_174 75 [(0, .ref 2), (1, .long x1)] [.ref 2] h Q)) (k2 : ¬ ¬ y1 = 0 → (∀ {h : zz_H}, kR h t s → zz_J zp_P zt_tf zt_fd X d zm_174 59 [(0, .ref 2), (1, .long x1)] [.ref 2] h Q)) : zz_J zp_P zt_tf zt_fd X d zm_174 56 [(0, .ref 2), (1, .long x1)] [.int y1, .ref 2] h Q := by
  refine zz_J.b1 75 59 (A := ¬ y1 = 0) rfl (zz_cond_ne _ _) (by decide) rfl rfl (fun c => ?_) (fun c => ?_)
  · exact zz_J.weak (k1 c hR) rfl ⟨rfl, rfl, trivial⟩
  · exact zz_J.weak (k2 c hR) rfl ⟨rfl, rfl, trivial⟩
theorem cb_174_59 {X : Nat → Option zz_C} {h : zz_H} {t : cS} {s : mS} {d : Nat} {Q : zz_O → zz_H → Prop} {x1 : Int64} (hR : kR h t s) {w0 : Nat} (e0 : (kP t 2 1) = some w0) (e1 : w0 = 12 ∨ w0 = 21) (k : ∀ {h : zz_H}, kR h t s → zz_J zp_P zt_tf zt_fd X d zm_205 0 [(0, .ref w0), (1, .long x1)] [] h (zz_after 6 Q (fun v h' => zz_J zp_P zt_tf zt_fd X (d + 1) zm_174 67 [(0, .ref 2), (1, .long x1)] (v.toList ++ [.ref 2]) h' Q))) : zz_J zp_P zt_tf zt_fd X (d + 1) zm_174 59 [(0, .ref 2), (1, .long x1)] [.ref 2] h Q := by
  refine zz_J.n 60 rfl rfl rfl ?_
  refine zz_J.g 63 rfl (hR.gv (v := .ref w0) ko_2 (by decide) ((congrArg (fun q => some (zz_rv q)) e0).trans rfl)) rfl ?_
  refine zz_J.n 64 rfl rfl rfl ?_
  refine zz_J.cv 67 (as := [.ref 2]) rfl rfl (hR.clO (ko_P e1) (by decide) (by decide)) (by decide) (Nat.le_of_ble_eq_true rfl) (Nat.le_of_ble_eq_true rfl) rfl (Nat.le_of_ble_eq_true rfl) rfl ?_
  refine zz_J.mono (k hR) ?_
  intro o h' hE
  cases o with
  | inl v => exact zz_J.weak hE rfl ⟨rfl, rfl, trivial⟩
  | inr q => exact hE
theorem cb_174_67 {X : Nat → Option zz_C} {h : zz_H} {t : cS} {s : mS} {d : Nat} {Q : zz_O → zz_H → Prop} {x1 : Int64} {y1 : Int32} (hR : kR h t s) (k1 : ¬ y1 = (-1) → (∀ {h : zz_H}, kR h t s → zz_J zp_P zt_tf zt_fd X d zm_174 75 [(0, .ref 2), (1, .long x1)] [.ref 2] h Q)) (k2 : ¬ ¬ y1 = (-1) → (∀ {h : zz_H}, kR h t s → zz_J zp_P zt_tf zt_fd X d zm_174 71 [(0, .ref 2), (1, .long x1)] [.ref 2] h Q)) : zz_J zp_P zt_tf zt_fd X d zm_174 67 [(0, .ref 2), (1, .long x1)] [.int y1, .ref 2] h Q := by
  refine zz_J.c 68 (.int (-1)) rfl rfl rfl rfl ?_
  refine zz_J.b2 75 71 (A := ¬ y1 = (-1)) rfl (zz_cond_ne _ _) (by decide) rfl rfl (fun c => ?_) (fun c => ?_)
  · exact zz_J.weak (k1 c hR) rfl ⟨rfl, rfl, trivial⟩
  · exact zz_J.weak (k2 c hR) rfl ⟨rfl, rfl, trivial⟩
theorem cb_174_71 {X : Nat → Option zz_C} {h : zz_H} {t : cS} {s : mS} {d : Nat} {Q : zz_O → zz_H → Prop} {x1 : Int64} (hR : kR h t s) (k : ∀ {h : zz_H}, kR h t s → zz_J zp_P zt_tf zt_fd X d zm_174 76 [(0, .ref 2), (1, .long x1)] [.int 1, .ref 2] h Q) : zz_J zp_P zt_tf zt_fd X d zm_174 71 [(0, .ref 2), (1, .long x1)] [.ref 2] h Q := by
  refine zz_J.c 72 (.int 1) rfl rfl rfl rfl ?_
  refine zz_J.n 76 rfl rfl rfl ?_
  exact zz_J.weak (k hR) rfl ⟨rfl, rfl, trivial⟩
theorem cb_174_75 {X : Nat → Option zz_C} {h : zz_H} {t : cS} {s : mS} {d : Nat} {Q : zz_O → zz_H → Prop} {x1 : Int64} (hR : kR h t s) (k : ∀ {h : zz_H}, kR h t s → zz_J zp_P zt_tf zt_fd X d zm_174 76 [(0, .ref 2), (1, .long x1)] [.int 0, .ref 2] h Q) : zz_J zp_P zt_tf zt_fd X d zm_174 75 [(0, .ref 2), (1, .long x1)] [.ref 2] h Q := by
  refine zz_J.c 76 (.int 0) rfl rfl rfl rfl ?_
  exact zz_J.weak (k hR) rfl ⟨rfl, rfl, trivial⟩
theorem cb_174_76 {X : Nat → Option zz_C} {h : zz_H} {t : cS} {s : mS} {d : Nat} {Q : zz_O → zz_H → Prop} {x1 : Int64} {y1 : Int32} (hR : kR h t s) (k : ∀ {h : zz_H}, kR h t s → zz_J zp_P zt_tf zt_fd X d zm_202 0 [(0, .ref 2), (1, .int y1), (2, .int 4)] [] h (zz_after 5 Q (fun v h' => zz_J zp_P zt_tf zt_fd X (d + 1) zm_174 80 [(0, .ref 2), (1, .long x1)] (v.toList ++ []) h' Q))) : zz_J zp_P zt_tf zt_fd X (d + 1) zm_174 76 [(0, .ref 2), (1, .long x1)] [.int y1, .ref 2] h Q := by
  refine zz_J.c 77 (.int 4) rfl rfl rfl rfl ?_
  refine zz_J.cv 80 (as := []) rfl rfl (hR.clO ko_2 (by decide) (by decide)) (by decide) (Nat.le_of_ble_eq_true rfl) (Nat.le_of_ble_eq_true rfl) rfl (Nat.le_of_ble_eq_true rfl) rfl ?_
  refine zz_J.mono (k hR) ?_
  intro o h' hE
  cases o with
  | inl v => exact zz_J.weak hE rfl ⟨rfl, rfl, trivial⟩
  | inr q => exact hE
theorem cb_174_80 {X : Nat → Option zz_C} {h : zz_H} {t : cS} {s : mS} {d : Nat} {Q : zz_O → zz_H → Prop} {x1 : Int64} (hR : kR h t s) {w0 : Nat} (e0 : (kP t 2 1) = some w0) (k : ∀ {h : zz_H}, kR h t s → zz_J zp_P zt_tf zt_fd X d zm_243 0 [(0, .ref 3)] [] h (zz_after 10 Q (fun v h' => zz_J zp_P zt_tf zt_fd X (d + 1) zm_174 92 [(0, .ref 2)] (v.toList ++ [.long x1, .ref w0]) h' Q))) : zz_J zp_P zt_tf zt_fd X (d + 1) zm_174 80 [(0, .ref 2), (1, .long x1)] [] h Q := by
  refine zz_J.n 81 rfl rfl rfl ?_
  refine zz_J.g 84 rfl (hR.gv (v := .ref w0) ko_2 (by decide) ((congrArg (fun q => some (zz_rv q)) e0).trans rfl)) rfl ?_
  refine zz_J.n 85 rfl rfl rfl ?_
  refine zz_J.n 86 rfl rfl rfl ?_
  refine zz_J.g 89 rfl (hR.gv (v := .ref 3) ko_2 (by decide) rfl) rfl ?_
  refine zz_J.cv 92 (as := [.long x1, .ref w0]) rfl rfl (hR.clO ko_3 (by decide) (by decide)) (by decide) (Nat.le_of_ble_eq_true rfl) (Nat.le_of_ble_eq_true rfl) rfl (Nat.le_of_ble_eq_true rfl) rfl ?_
  refine zz_J.mono (k hR) ?_
  intro o h' hE
  cases o with
  | inl v => exact zz_J.weak hE rfl ⟨rfl, trivial⟩
  | inr q => exact hE
theorem cb_174_92 {X : Nat → Option zz_C} {h : zz_H} {t : cS} {s : mS} {d : Nat} {Q : zz_O → zz_H → Prop} {y0 : Nat} {y1 : Int64} {y2 : Int32} (hR : kR h t s) (e0 : y0 = 12 ∨ y0 = 21) (k : ∀ {h : zz_H}, kR h t s → zz_J zp_P zt_tf zt_fd X d zm_206 0 [(0, .ref y0), (1, .long y1), (3, .int y2)] [] h (zz_after 6 Q (fun v h' => zz_J zp_P zt_tf zt_fd X (d + 1) zm_174 95 [(0, .ref 2)] (v.toList ++ []) h' Q))) : zz_J zp_P zt_tf zt_fd X (d + 1) zm_174 92 [(0, .ref 2)] [.int y2, .long y1, .ref y0] h Q := by
  refine zz_J.cv 95 (as := []) rfl rfl (hR.clO (ko_P e0) (by decide) (by decide)) (by decide) (Nat.le_of_ble_eq_true rfl) (Nat.le_of_ble_eq_true rfl) rfl (Nat.le_of_ble_eq_true rfl) rfl ?_
  refine zz_J.mono (k hR) ?_
  intro o h' hE
  cases o with
  | inl v => exact zz_J.weak hE rfl ⟨rfl, trivial⟩
  | inr q => exact hE
theorem cb_174_95 {X : Nat → Option zz_C} {h : zz_H} {t : cS} {s : mS} {d : Nat} {Q : zz_O → zz_H → Prop}  (hR : kR h t s) (k : ∀ {h : zz_H}, kR h t s → zz_J zp_P zt_tf zt_fd X d zm_46 0 [(0, .ref 3)] [] h (zz_after 10 Q (fun v h' => zz_J zp_P zt_tf zt_fd X (d + 1) zm_174 102 [] (v.toList ++ []) h' Q))) : zz_J zp_P zt_tf zt_fd X (d + 1) zm_174 95 [(0, .ref 2)] [] h Q := by
  refine zz_J.n 96 rfl rfl rfl ?_
  refine zz_J.g 99 rfl (hR.gv (v := .ref 3) ko_2 (by decide) rfl) rfl ?_
  refine zz_J.cv 102 (as := []) rfl rfl (hR.clO ko_3 (by decide) (by decide)) (by decide) (Nat.le_of_ble_eq_true rfl) (Nat.le_of_ble_eq_true rfl) rfl (Nat.le_of_ble_eq_true rfl) rfl ?_
  refine zz_J.mono (k hR) ?_
  intro o h' hE
  cases o with
  | inl v => exact zz_J.weak hE rfl trivial
  | inr q => exact hE
theorem cb_174_102 {X : Nat → Option zz_C} {h : zz_H} {t : cS} {s : mS} {d : Nat} {Q : zz_O → zz_H → Prop}  (hR : kR h t s) (k : ∀ {h : zz_H}, kR h t s → Q (.inl none) h) : zz_J zp_P zt_tf zt_fd X d zm_174 102 [] [] h Q := by
  refine zz_J.ret rfl rfl rfl ?_
  exact k hR
def cf_174_102 (N : Nat) (X : Nat → Option zz_C)  (t : cS) : kO := some (t, .inl none)
theorem cr_174_102 {X : Nat → Option zz_C} {s : mS} {N : Nat} {d : Nat} (hd : 9 ≤ d) {Q : zz_O → zz_H → Prop}  {h : zz_H} {t t' : cS} {o : kY} (hR : kR h t s) (hf : cf_174_102 N X  t = some (t', o)) (k : (∀ h', kR h' t' s → kE o Q h')) : zz_J zp_P zt_tf zt_fd X d zm_174 102 [] [] h Q := by
  unfold cf_174_102 at hf
  cases hf
  exact cb_174_102 hR  (fun {h} hR => k h hR)
def cf_174_95 (N : Nat) (X : Nat → Option zz_C)  (t : cS) : kO := ko_call 10 (cf_46 N X  t) (fun g1 v1 => co_v v1 (cf_174_102 N X  g1))
theorem cr_174_95 {X : Nat → Option zz_C} {s : mS} {N : Nat} {d : Nat} (hd : 9 ≤ d) {Q : zz_O → zz_H → Prop}  {h : zz_H} {t t' : cS} {o : kY} (hR : kR h t s) (hf : cf_174_95 N X  t = some (t', o)) (k : (∀ h', kR h' t' s → kE o Q h')) : zz_J zp_P zt_tf zt_fd X d zm_174 95 [(0, .ref 2)] [] h Q := by
  unfold cf_174_95 at hf
  obtain ⟨d', rfl⟩ : ∃ d', d = d' + 1 := ⟨d - 1, by omega⟩
  refine cb_174_95 hR  (fun {h} hR => ?_)
  rcases ko_call_ok hf with ⟨g1, v1, er, hf⟩ | ⟨g1, er, hq⟩
  · obtain ⟨hv, hf2⟩ := co_v_ok hf
    clear hf
    have hf := hf2
    clear hf2
    subst hv
    refine cr_46 (by omega) hR er (fun h hR => ?_)
    exact cr_174_102 hd hR hf k
  · refine cr_46 (by omega) hR er (fun h hR => ?_)
    exact ko_thrown hq hR k
def cf_174_92 (N : Nat) (X : Nat → Option zz_C) (y0 : Nat) (y1 : Int64) (y2 : Int32) (t : cS) : kO := if y0 = 12 ∨ y0 = 21 then (ko_call 6 (cf_206 N X y0 y1 y2 t) (fun g1 v1 => co_v v1 (cf_174_95 N X  g1))) else none
theorem cr_174_92 {X : Nat → Option zz_C} {s : mS} {N : Nat} {d : Nat} (hd : 9 ≤ d) {Q : zz_O → zz_H → Prop} {y0 : Nat} {y1 : Int64} {y2 : Int32} {h : zz_H} {t t' : cS} {o : kY} (hR : kR h t s) (hf : cf_174_92 N X y0 y1 y2 t = some (t', o)) (k : (∀ h', kR h' t' s → kE o Q h')) : zz_J zp_P zt_tf zt_fd X d zm_174 92 [(0, .ref 2)] [.int y2, .long y1, .ref y0] h Q := by
  unfold cf_174_92 at hf
  obtain ⟨e0, hf⟩ := ko_if hf
  obtain ⟨d', rfl⟩ : ∃ d', d = d' + 1 := ⟨d - 1, by omega⟩
  refine cb_174_92 hR e0 (fun {h} hR => ?_)
  rcases ko_call_ok hf with ⟨g1, v1, er, hf⟩ | ⟨g1, er, hq⟩
  · obtain ⟨hv, hf2⟩ := co_v_ok hf
    clear hf
    have hf := hf2
    clear hf2
    subst hv
    refine cr_206 (by omega) hR er (fun h hR => ?_)
    exact cr_174_95 hd hR hf k
  · refine cr_206 (by omega) hR er (fun h hR => ?_)
    exact ko_thrown hq hR k
def cf_174_80 (N : Nat) (X : Nat → Option zz_C) (x1 : Int64) (t : cS) : kO := co_b ((kP t 2 1)) (fun w0 => ko_call 10 (cf_243 N X  t) (fun g1 v1 => co_i v1 (fun y => cf_174_92 N X w0 x1 y g1)))
theorem cr_174_80 {X : Nat → Option zz_C} {s : mS} {N : Nat} {d : Nat} (hd : 9 ≤ d) {Q : zz_O → zz_H → Prop} {x1 : Int64} {h : zz_H} {t t' : cS} {o : kY} (hR : kR h t s) (hf : cf_174_80 N X x1 t = some (t', o)) (k : (∀ h', kR h' t' s → kE o Q h')) : zz_J zp_P zt_tf zt_fd X d zm_174 80 [(0, .ref 2), (1, .long x1)] [] h Q := by
  unfold cf_174_80 at hf
  obtain ⟨w0, e0, hf⟩ := co_b_ok hf
  obtain ⟨d', rfl⟩ : ∃ d', d = d' + 1 := ⟨d - 1, by omega⟩
  refine cb_174_80 hR e0 (fun {h} hR => ?_)
  rcases ko_call_ok hf with ⟨g1, v1, er, hf⟩ | ⟨g1, er, hq⟩
  · obtain ⟨y, hv, hf2⟩ := co_i_ok hf
    clear hf
    have hf := hf2
    clear hf2
    subst hv
    refine cr_243 (by omega) hR er (fun h hR => ?_)
    exact cr_174_92 hd hR hf k
  · refine cr_243 (by omega) hR er (fun h hR => ?_)
    exact ko_thrown hq hR k
def cf_174_76 (N : Nat) (X : Nat → Option zz_C) (x1 : Int64) (y1 : Int32) (t : cS) : kO := ko_call 5 (cf_202 N X y1 4 t) (fun g1 v1 => co_v v1 (cf_174_80 N X x1 g1))
theorem cr_174_76 {X : Nat → Option zz_C} {s : mS} {N : Nat} {d : Nat} (hd : 9 ≤ d) {Q : zz_O → zz_H → Prop} {x1 : Int64} {y1 : Int32} {h : zz_H} {t t' : cS} {o : kY} (hR : kR h t s) (hf : cf_174_76 N X x1 y1 t = some (t', o)) (k : (∀ h', kR h' t' s → kE o Q h')) : zz_J zp_P zt_tf zt_fd X d zm_174 76 [(0, .ref 2), (1, .long x1)] [.int y1, .ref 2] h Q := by
  unfold cf_174_76 at hf
  obtain ⟨d', rfl⟩ : ∃ d', d = d' + 1 := ⟨d - 1, by omega⟩
  refine cb_174_76 hR  (fun {h} hR => ?_)
  rcases ko_call_ok hf with ⟨g1, v1, er, hf⟩ | ⟨g1, er, hq⟩
  · obtain ⟨hv, hf2⟩ := co_v_ok hf
    clear hf
    have hf := hf2
    clear hf2
    subst hv
    refine cr_202 (by omega) hR er (fun h hR => ?_)
    exact cr_174_80 hd hR hf k
  · refine cr_202 (by omega) hR er (fun h hR => ?_)
    exact ko_thrown hq hR k
def cf_174_75 (N : Nat) (X : Nat → Option zz_C) (x1 : Int64) (t : cS) : kO := cf_174_76 N X x1 0 t
theorem cr_174_75 {X : Nat → Option zz_C} {s : mS} {N : Nat} {d : Nat} (hd : 9 ≤ d) {Q : zz_O → zz_H → Prop} {x1 : Int64} {h : zz_H} {t t' : cS} {o : kY} (hR : kR h t s) (hf : cf_174_75 N X x1 t = some (t', o)) (k : (∀ h', kR h' t' s → kE o Q h')) : zz_J zp_P zt_tf zt_fd X d zm_174 75 [(0, .ref 2), (1, .long x1)] [.ref 2] h Q := by
  unfold cf_174_75 at hf
  exact cb_174_75 hR  (fun hR => cr_174_76 hd hR hf k)
def cf_174_71 (N : Nat) (X : Nat → Option zz_C) (x1 : Int64) (t : cS) : kO := cf_174_76 N X x1 1 t
theorem cr_174_71 {X : Nat → Option zz_C} {s : mS} {N : Nat} {d : Nat} (hd : 9 ≤ d) {Q : zz_O → zz_H → Prop} {x1 : Int64} {h : zz_H} {t t' : cS} {o : kY} (hR : kR h t s) (hf : cf_174_71 N X x1 t = some (t', o)) (k : (∀ h', kR h' t' s → kE o Q h')) : zz_J zp_P zt_tf zt_fd X d zm_174 71 [(0, .ref 2), (1, .long x1)] [.ref 2] h Q := by
  unfold cf_174_71 at hf
  exact cb_174_71 hR  (fun hR => cr_174_76 hd hR hf k)
def cf_174_67 (N : Nat) (X : Nat → Option zz_C) (x1 : Int64) (y1 : Int32) (t : cS) : kO := if ¬ y1 = (-1) then cf_174_75 N X x1 t else cf_174_71 N X x1 t
theorem cr_174_67 {X : Nat → Option zz_C} {s : mS} {N : Nat} {d : Nat} (hd : 9 ≤ d) {Q : zz_O → zz_H → Prop} {x1 : Int64} {y1 : Int32} {h : zz_H} {t t' : cS} {o : kY} (hR : kR h t s) (hf : cf_174_67 N X x1 y1 t = some (t', o)) (k : (∀ h', kR h' t' s → kE o Q h')) : zz_J zp_P zt_tf zt_fd X d zm_174 67 [(0, .ref 2), (1, .long x1)] [.int y1, .ref 2] h Q := by
  unfold cf_174_67 at hf
  refine cb_174_67 hR  (fun c {h} hR => ?_) (fun c {h} hR => ?_)
  · rw [if_pos c] at hf
    exact cr_174_75 hd hR hf k
  · rw [if_neg c] at hf
    exact cr_174_71 hd hR hf k
def cf_174_59 (N : Nat) (X : Nat → Option zz_C) (x1 : Int64) (t : cS) : kO := co_b ((kP t 2 1)) (fun w0 => if w0 = 12 ∨ w0 = 21 then (ko_call 6 (cf_205 N X w0 x1 t) (fun g1 v1 => co_i v1 (fun y => cf_174_67 N X x1 y g1))) else none)
theorem cr_174_59 {X : Nat → Option zz_C} {s : mS} {N : Nat} {d : Nat} (hd : 9 ≤ d) {Q : zz_O → zz_H → Prop} {x1 : Int64} {h : zz_H} {t t' : cS} {o : kY} (hR : kR h t s) (hf : cf_174_59 N X x1 t = some (t', o)) (k : (∀ h', kR h' t' s → kE o Q h')) : zz_J zp_P zt_tf zt_fd X d zm_174 59 [(0, .ref 2), (1, .long x1)] [.ref 2] h Q := by
  unfold cf_174_59 at hf
  obtain ⟨w0, e0, hf⟩ := co_b_ok hf
  obtain ⟨e1, hf⟩ := ko_if hf
  obtain ⟨d', rfl⟩ : ∃ d', d = d' + 1 := ⟨d - 1, by omega⟩
  refine cb_174_59 hR e0 e1 (fun {h} hR => ?_)
  rcases ko_call_ok hf with ⟨g1, v1, er, hf⟩ | ⟨g1, er, hq⟩
  · obtain ⟨y, hv, hf2⟩ := co_i_ok hf
    clear hf
    have hf := hf2
    clear hf2
    subst hv
    refine cr_205 (by omega) hR er (fun h hR => ?_)
    exact cr_174_67 hd hR hf k
  · refine cr_205 (by omega) hR er (fun h hR => ?_)
    exact ko_thrown hq hR k
def cf_174_56 (N : Nat) (X : Nat → Option zz_C) (x1 : Int64) (y1 : Int32) (t : cS) : kO := if ¬ y1 = 0 then cf_174_75 N X x1 t else cf_174_59 N X x1 t
theorem cr_174_56 {X : Nat → Option zz_C} {s : mS} {N : Nat} {d : Nat} (hd : 9 ≤ d) {Q : zz_O → zz_H → Prop} {x1 : Int64} {y1 : Int32} {h : zz_H} {t t' : cS} {o : kY} (hR : kR h t s) (hf : cf_174_56 N X x1 y1 t = some (t', o)) (k : (∀ h', kR h' t' s → kE o Q h')) : zz_J zp_P zt_tf zt_fd X d zm_174 56 [(0, .ref 2), (1, .long x1)] [.int y1, .ref 2] h Q := by
  unfold cf_174_56 at hf
  refine cb_174_56 hR  (fun c {h} hR => ?_) (fun c {h} hR => ?_)
  · rw [if_pos c] at hf
    exact cr_174_75 hd hR hf k
  · rw [if_neg c] at hf
    exact cr_174_59 hd hR hf k
def cf_174_51 (N : Nat) (X : Nat → Option zz_C) (x1 : Int64) (t : cS) : kO := ko_call 0 (cf_197 N X x1 t) (fun g1 v1 => co_i v1 (fun y => cf_174_56 N X x1 y g1))
theorem cr_174_51 {X : Nat → Option zz_C} {s : mS} {N : Nat} {d : Nat} (hd : 9 ≤ d) {Q : zz_O → zz_H → Prop} {x1 : Int64} {h : zz_H} {t t' : cS} {o : kY} (hR : kR h t s) (hf : cf_174_51 N X x1 t = some (t', o)) (k : (∀ h', kR h' t' s → kE o Q h')) : zz_J zp_P zt_tf zt_fd X d zm_174 51 [(0, .ref 2), (1, .long x1)] [] h Q := by
  unfold cf_174_51 at hf
  obtain ⟨d', rfl⟩ : ∃ d', d = d' + 1 := ⟨d - 1, by omega⟩
  refine cb_174_51 hR  (fun {h} hR => ?_)
  rcases ko_call_ok hf with ⟨g1, v1, er, hf⟩ | ⟨g1, er, hq⟩
  · obtain ⟨y, hv, hf2⟩ := co_i_ok hf
    clear hf
    have hf := hf2
    clear hf2
    subst hv
    refine cr_197 (by omega) hR er (fun h hR => ?_)
    exact cr_174_56 hd hR hf k
  · refine cr_197 (by omega) hR er (fun h hR => ?_)
    exact ko_thrown hq hR k
def cf_174_47 (N : Nat) (X : Nat → Option zz_C) (x1 : Int64) (y1 : Int32) (t : cS) : kO := ko_call 5 (cf_202 N X y1 3 t) (fun g1 v1 => co_v v1 (cf_174_51 N X x1 g1))
theorem cr_174_47 {X : Nat → Option zz_C} {s : mS} {N : Nat} {d : Nat} (hd : 9 ≤ d) {Q : zz_O → zz_H → Prop} {x1 : Int64} {y1 : Int32} {h : zz_H} {t t' : cS} {o : kY} (hR : kR h t s) (hf : cf_174_47 N X x1 y1 t = some (t', o)) (k : (∀ h', kR h' t' s → kE o Q h')) : zz_J zp_P zt_tf zt_fd X d zm_174 47 [(0, .ref 2), (1, .long x1)] [.int y1, .ref 2] h Q := by
  unfold cf_174_47 at hf
  obtain ⟨d', rfl⟩ : ∃ d', d = d' + 1 := ⟨d - 1, by omega⟩
  refine cb_174_47 hR  (fun {h} hR => ?_)
  rcases ko_call_ok hf with ⟨g1, v1, er, hf⟩ | ⟨g1, er, hq⟩
  · obtain ⟨hv, hf2⟩ := co_v_ok hf
    clear hf
    have hf := hf2
    clear hf2
    subst hv
    refine cr_202 (by omega) hR er (fun h hR => ?_)
    exact cr_174_51 hd hR hf k
  · refine cr_202 (by omega) hR er (fun h hR => ?_)
    exact ko_thrown hq hR k
def cf_174_46 (N : Nat) (X : Nat → Option zz_C) (x1 : Int64) (t : cS) : kO := cf_174_47 N X x1 0 t
theorem cr_174_46 {X : Nat → Option zz_C} {s : mS} {N : Nat} {d : Nat} (hd : 9 ≤ d) {Q : zz_O → zz_H → Prop} {x1 : Int64} {h : zz_H} {t t' : cS} {o : kY} (hR : kR h t s) (hf : cf_174_46 N X x1 t = some (t', o)) (k : (∀ h', kR h' t' s → kE o Q h')) : zz_J zp_P zt_tf zt_fd X d zm_174 46 [(0, .ref 2), (1, .long x1)] [.ref 2] h Q := by
  unfold cf_174_46 at hf
  exact cb_174_46 hR  (fun hR => cr_174_47 hd hR hf k)
def cf_174_42 (N : Nat) (X : Nat → Option zz_C) (x1 : Int64) (t : cS) : kO := cf_174_47 N X x1 1 t
theorem cr_174_42 {X : Nat → Option zz_C} {s : mS} {N : Nat} {d : Nat} (hd : 9 ≤ d) {Q : zz_O → zz_H → Prop} {x1 : Int64} {h : zz_H} {t t' : cS} {o : kY} (hR : kR h t s) (hf : cf_174_42 N X x1 t = some (t', o)) (k : (∀ h', kR h' t' s → kE o Q h')) : zz_J zp_P zt_tf zt_fd X d zm_174 42 [(0, .ref 2), (1, .long x1)] [.ref 2] h Q := by
  unfold cf_174_42 at hf
  exact cb_174_42 hR  (fun hR => cr_174_47 hd hR hf k)
def cf_174_37 (N : Nat) (X : Nat → Option zz_C) (x1 : Int64) (y1 : Int32) (t : cS) : kO := if 12 ≤ y1 then cf_174_46 N X x1 t else cf_174_42 N X x1 t
theorem cr_174_37 {X : Nat → Option zz_C} {s : mS} {N : Nat} {d : Nat} (hd : 9 ≤ d) {Q : zz_O → zz_H → Prop} {x1 : Int64} {y1 : Int32} {h : zz_H} {t t' : cS} {o : kY} (hR : kR h t s) (hf : cf_174_37 N X x1 y1 t = some (t', o)) (k : (∀ h', kR h' t' s → kE o Q h')) : zz_J zp_P zt_tf zt_fd X d zm_174 37 [(0, .ref 2), (1, .long x1)] [.int y1, .ref 2] h Q := by
  unfold cf_174_37 at hf
  refine cb_174_37 hR  (fun c {h} hR => ?_) (fun c {h} hR => ?_)
  · rw [if_pos c] at hf
    exact cr_174_46 hd hR hf k
  · rw [if_neg c] at hf
    exact cr_174_42 hd hR hf k
def cf_174_28 (N : Nat) (X : Nat → Option zz_C) (y0 : Int64) (t : cS) : kO := co_b ((kP t 2 1)) (fun w0 => if w0 = 12 ∨ w0 = 21 then (ko_call 6 (cf_32 N X w0 t) (fun g1 v1 => co_i v1 (fun y => cf_174_37 N X y0 y g1))) else none)
theorem cr_174_28 {X : Nat → Option zz_C} {s : mS} {N : Nat} {d : Nat} (hd : 9 ≤ d) {Q : zz_O → zz_H → Prop} {y0 : Int64} {h : zz_H} {t t' : cS} {o : kY} (hR : kR h t s) (hf : cf_174_28 N X y0 t = some (t', o)) (k : (∀ h', kR h' t' s → kE o Q h')) : zz_J zp_P zt_tf zt_fd X d zm_174 28 [(0, .ref 2)] [.long y0] h Q := by
  unfold cf_174_28 at hf
  obtain ⟨w0, e0, hf⟩ := co_b_ok hf
  obtain ⟨e1, hf⟩ := ko_if hf
  obtain ⟨d', rfl⟩ : ∃ d', d = d' + 1 := ⟨d - 1, by omega⟩
  refine cb_174_28 hR e0 e1 (fun {h} hR => ?_)
  rcases ko_call_ok hf with ⟨g1, v1, er, hf⟩ | ⟨g1, er, hq⟩
  · obtain ⟨y, hv, hf2⟩ := co_i_ok hf
    clear hf
    have hf := hf2
    clear hf2
    subst hv
    refine cr_32 (by omega) hR er (fun h hR => ?_)
    exact cr_174_37 hd hR hf k
  · refine cr_32 (by omega) hR er (fun h hR => ?_)
    exact ko_thrown hq hR k
def cf_174_21 (N : Nat) (X : Nat → Option zz_C)  (t : cS) : kO := ko_call 10 (cf_244 N X  t) (fun g1 v1 => co_l v1 (fun y => cf_174_28 N X y g1))
theorem cr_174_21 {X : Nat → Option zz_C} {s : mS} {N : Nat} {d : Nat} (hd : 9 ≤ d) {Q : zz_O → zz_H → Prop}  {h : zz_H} {t t' : cS} {o : kY} (hR : kR h t s) (hf : cf_174_21 N X  t = some (t', o)) (k : (∀ h', kR h' t' s → kE o Q h')) : zz_J zp_P zt_tf zt_fd X d zm_174 21 [(0, .ref 2)] [] h Q := by
  unfold cf_174_21 at hf
  obtain ⟨d', rfl⟩ : ∃ d', d = d' + 1 := ⟨d - 1, by omega⟩
  refine cb_174_21 hR  (fun {h} hR => ?_)
  rcases ko_call_ok hf with ⟨g1, v1, er, hf⟩ | ⟨g1, er, hq⟩
  · obtain ⟨y, hv, hf2⟩ := co_l_ok hf
    clear hf
    have hf := hf2
    clear hf2
    subst hv
    refine cr_244 (by omega) hR er (fun h hR => ?_)
    exact cr_174_28 hd hR hf k
  · refine cr_244 (by omega) hR er (fun h hR => ?_)
    exact ko_thrown hq hR k
def cf_174_17 (N : Nat) (X : Nat → Option zz_C) (y1 : Int32) (t : cS) : kO := ko_call 5 (cf_202 N X y1 2 t) (fun g1 v1 => co_v v1 (cf_174_21 N X  g1))
theorem cr_174_17 {X : Nat → Option zz_C} {s : mS} {N : Nat} {d : Nat} (hd : 9 ≤ d) {Q : zz_O → zz_H → Prop} {y1 : Int32} {h : zz_H} {t t' : cS} {o : kY} (hR : kR h t s) (hf : cf_174_17 N X y1 t = some (t', o)) (k : (∀ h', kR h' t' s → kE o Q h')) : zz_J zp_P zt_tf zt_fd X d zm_174 17 [(0, .ref 2)] [.int y1, .ref 2] h Q := by
  unfold cf_174_17 at hf
  obtain ⟨d', rfl⟩ : ∃ d', d = d' + 1 := ⟨d - 1, by omega⟩
  refine cb_174_17 hR  (fun {h} hR => ?_)
  rcases ko_call_ok hf with ⟨g1, v1, er, hf⟩ | ⟨g1, er, hq⟩
  · obtain ⟨hv, hf2⟩ := co_v_ok hf
    clear hf
    have hf := hf2
    clear hf2
    subst hv
    refine cr_202 (by omega) hR er (fun h hR => ?_)
    exact cr_174_21 hd hR hf k
  · refine cr_202 (by omega) hR er (fun h hR => ?_)
    exact ko_thrown hq hR k
def cf_174_16 (N : Nat) (X : Nat → Option zz_C)  (t : cS) : kO := cf_174_17 N X 0 t
theorem cr_174_16 {X : Nat → Option zz_C} {s : mS} {N : Nat} {d : Nat} (hd : 9 ≤ d) {Q : zz_O → zz_H → Prop}  {h : zz_H} {t t' : cS} {o : kY} (hR : kR h t s) (hf : cf_174_16 N X  t = some (t', o)) (k : (∀ h', kR h' t' s → kE o Q h')) : zz_J zp_P zt_tf zt_fd X d zm_174 16 [(0, .ref 2)] [.ref 2] h Q := by
  unfold cf_174_16 at hf
  exact cb_174_16 hR  (fun hR => cr_174_17 hd hR hf k)
def cf_174_12 (N : Nat) (X : Nat → Option zz_C)  (t : cS) : kO := cf_174_17 N X 1 t
theorem cr_174_12 {X : Nat → Option zz_C} {s : mS} {N : Nat} {d : Nat} (hd : 9 ≤ d) {Q : zz_O → zz_H → Prop}  {h : zz_H} {t t' : cS} {o : kY} (hR : kR h t s) (hf : cf_174_12 N X  t = some (t', o)) (k : (∀ h', kR h' t' s → kE o Q h')) : zz_J zp_P zt_tf zt_fd X d zm_174 12 [(0, .ref 2)] [.ref 2] h Q := by
  unfold cf_174_12 at hf
  exact cb_174_12 hR  (fun hR => cr_174_17 hd hR hf k)
def cf_174_8 (N : Nat) (X : Nat → Option zz_C) (y1 : Int32) (t : cS) : kO := if ¬ y1 = 3 then cf_174_16 N X  t else cf_174_12 N X  t
theorem cr_174_8 {X : Nat → Option zz_C} {s : mS} {N : Nat} {d : Nat} (hd : 9 ≤ d) {Q : zz_O → zz_H → Prop} {y1 : Int32} {h : zz_H} {t t' : cS} {o : kY} (hR : kR h t s) (hf : cf_174_8 N X y1 t = some (t', o)) (k : (∀ h', kR h' t' s → kE o Q h')) : zz_J zp_P zt_tf zt_fd X d zm_174 8 [(0, .ref 2)] [.int y1, .ref 2] h Q := by
  unfold cf_174_8 at hf
  refine cb_174_8 hR  (fun c {h} hR => ?_) (fun c {h} hR => ?_)
  · rw [if_pos c] at hf
    exact cr_174_16 hd hR hf k
  · rw [if_neg c] at hf
    exact cr_174_12 hd hR hf k
def cf_174_0 (N : Nat) (X : Nat → Option zz_C)  (t : cS) : kO := ko_call 10 (cf_42 N X  t) (fun g1 v1 => co_i v1 (fun y => cf_174_8 N X y g1))
theorem cr_174_0 {X : Nat → Option zz_C} {s : mS} {N : Nat} {d : Nat} (hd : 9 ≤ d) {Q : zz_O → zz_H → Prop}  {h : zz_H} {t t' : cS} {o : kY} (hR : kR h t s) (hf : cf_174_0 N X  t = some (t', o)) (k : (∀ h', kR h' t' s → kE o Q h')) : zz_J zp_P zt_tf zt_fd X d zm_174 0 [(0, .ref 2)] [] h Q := by
  unfold cf_174_0 at hf
  obtain ⟨d', rfl⟩ : ∃ d', d = d' + 1 := ⟨d - 1, by omega⟩
  refine cb_174_0 hR  (fun {h} hR => ?_)
  rcases ko_call_ok hf with ⟨g1, v1, er, hf⟩ | ⟨g1, er, hq⟩
  · obtain ⟨y, hv, hf2⟩ := co_i_ok hf
    clear hf
    have hf := hf2
    clear hf2
    subst hv
    refine cr_42 (by omega) hR er (fun h hR => ?_)
    exact cr_174_8 hd hR hf k
  · refine cr_42 (by omega) hR er (fun h hR => ?_)
    exact ko_thrown hq hR k
/-- functionName -/
def cf_174 (N : Nat) (X : Nat → Option zz_C)  (t : cS) : kO := cf_174_0 N X  t
theorem cr_174 {X : Nat → Option zz_C} {s : mS} {N : Nat} {d : Nat} (hd : 9 ≤ d) {Q : zz_O → zz_H → Prop}  {h : zz_H} {t t' : cS} {o : kY} (hR : kR h t s) (hf : cf_174 N X  t = some (t', o)) (k : ∀ h', kR h' t' s → kE o Q h') : zz_J zp_P zt_tf zt_fd X d zm_174 0 [(0, .ref 2)] [] h Q := by
  unfold cf_174 at hf
  exact zz_J.weak (cr_174_0 hd hR hf k) rfl ⟨rfl, trivial⟩
/-! yX5_variableNumber (J)I -/
theorem cb_196_0 {X : Nat → Option zz_C} {h : zz_H} {t : cS} {s : mS} {d : Nat} {Q : zz_O → zz_H → Prop} {x1 : Int64} (hR : kR h t s) (k : ∀ {h : zz_H}, kR h t s → zz_J zp_P zt_tf zt_fd X d zm_196 2 [(0, .ref 2), (1, .long x1), (3, .int 0)] [] h Q) : zz_J zp_P zt_tf zt_fd X d zm_196 0 [(0, .ref 2), (1, .long x1)] [] h Q := by
  refine zz_J.c 1 (.int 0) rfl rfl rfl rfl ?_
  refine zz_J.n 2 rfl rfl rfl ?_
  exact zz_J.weak (k hR) rfl ⟨rfl, rfl, rfl, trivial⟩
theorem cb_196_2 {X : Nat → Option zz_C} {h : zz_H} {t : cS} {s : mS} {d : Nat} {Q : zz_O → zz_H → Prop} {x1 : Int64} {x3 : Int32} (hR : kR h t s) (k1 : (kI t 2 4) ≤ x3 → (∀ {h : zz_H}, kR h t s → zz_J zp_P zt_tf zt_fd X d zm_196 29 [] [] h Q)) (k2 : ¬ (kI t 2 4) ≤ x3 → (∀ {h : zz_H}, kR h t s → zz_J zp_P zt_tf zt_fd X d zm_196 10 [(0, .ref 2), (1, .long x1), (3, .int x3)] [] h Q)) : zz_J zp_P zt_tf zt_fd X d zm_196 2 [(0, .ref 2), (1, .long x1), (3, .int x3)] [] h Q := by
  refine zz_J.n 3 rfl rfl rfl ?_
  refine zz_J.n 4 rfl rfl rfl ?_
  refine zz_J.g 7 rfl (hR.gv (v := .int (kI t 2 4)) ko_2 (by decide) rfl) rfl ?_
  refine zz_J.b2 29 10 (A := (kI t 2 4) ≤ x3) rfl rfl (by decide) rfl rfl (fun c => ?_) (fun c => ?_)
  · exact zz_J.weak (k1 c hR) rfl trivial
  · exact zz_J.weak (k2 c hR) rfl ⟨rfl, rfl, rfl, trivial⟩
theorem cb_196_10 {X : Nat → Option zz_C} {h : zz_H} {t : cS} {s : mS} {d : Nat} {Q : zz_O → zz_H → Prop} {x1 : Int64} {x3 : Int32} (hR : kR h t s) (e0 : ¬ (x3 < 0 ∨ (kB t 7).1 ≤ (Int32.toNatClampNeg x3))) (k1 : ¬ (lg_cmp ((kB t 7).2 (Int32.toNatClampNeg x3)) x1) = 0 → (∀ {h : zz_H}, kR h t s → zz_J zp_P zt_tf zt_fd X d zm_196 23 [(0, .ref 2), (1, .long x1), (3, .int x3)] [] h Q)) (k2 : ¬ ¬ (lg_cmp ((kB t 7).2 (Int32.toNatClampNeg x3)) x1) = 0 → (∀ {h : zz_H}, kR h t s → zz_J zp_P zt_tf zt_fd X d zm_196 21 [(3, .int x3)] [] h Q)) : zz_J zp_P zt_tf zt_fd X d zm_196 10 [(0, .ref 2), (1, .long x1), (3, .int x3)] [] h Q := by
  refine zz_J.n 11 rfl rfl rfl ?_
  refine zz_J.g 14 rfl (hR.gv (v := .ref (kD t 7)) ko_2 (by decide) rfl) rfl ?_
  refine zz_J.n 15 rfl rfl rfl ?_
  refine zz_J.al 16 rfl (hR.al (w := ((kB t 7).2 (Int32.toNatClampNeg x3))) ka_7 rfl e0 rfl) rfl ?_
  refine zz_J.n 17 rfl rfl rfl ?_
  refine zz_J.n 18 rfl rfl rfl ?_
  refine zz_J.b1 23 21 (A := ¬ (lg_cmp ((kB t 7).2 (Int32.toNatClampNeg x3)) x1) = 0) rfl (zz_cond_ne _ _) (by decide) rfl rfl (fun c => ?_) (fun c => ?_)
  · exact zz_J.weak (k1 c hR) rfl ⟨rfl, rfl, rfl, trivial⟩
  · exact zz_J.weak (k2 c hR) rfl ⟨rfl, trivial⟩
theorem cb_196_21 {X : Nat → Option zz_C} {h : zz_H} {t : cS} {s : mS} {d : Nat} {Q : zz_O → zz_H → Prop} {x3 : Int32} (hR : kR h t s) (k : ∀ {h : zz_H}, kR h t s → Q (.inl (some (.int x3))) h) : zz_J zp_P zt_tf zt_fd X d zm_196 21 [(3, .int x3)] [] h Q := by
  refine zz_J.n 22 rfl rfl rfl ?_
  refine zz_J.ret rfl rfl rfl ?_
  exact k hR
theorem cb_196_23 {X : Nat → Option zz_C} {h : zz_H} {t : cS} {s : mS} {d : Nat} {Q : zz_O → zz_H → Prop} {x1 : Int64} {x3 : Int32} (hR : kR h t s) (k : ∀ {h : zz_H}, kR h t s → zz_J zp_P zt_tf zt_fd X d zm_196 2 [(0, .ref 2), (1, .long x1), (3, .int (x3 + 1))] [] h Q) : zz_J zp_P zt_tf zt_fd X d zm_196 23 [(0, .ref 2), (1, .long x1), (3, .int x3)] [] h Q := by
  refine zz_J.n 26 rfl rfl rfl ?_
  refine zz_J.n 2 rfl rfl rfl ?_
  exact zz_J.weak (k hR) rfl ⟨rfl, rfl, rfl, trivial⟩
theorem cb_196_29 {X : Nat → Option zz_C} {h : zz_H} {t : cS} {s : mS} {d : Nat} {Q : zz_O → zz_H → Prop}  (hR : kR h t s) (k : ∀ {h : zz_H}, kR h t s → Q (.inl (some (.int (-1)))) h) : zz_J zp_P zt_tf zt_fd X d zm_196 29 [] [] h Q := by
  refine zz_J.c 30 (.int (-1)) rfl rfl rfl rfl ?_
  refine zz_J.ret rfl rfl rfl ?_
  exact k hR
def cf_196_29 (N : Nat) (X : Nat → Option zz_C)  (t : cS) : kO := some (t, .inl (some (.int (-1))))
theorem cr_196_29 {X : Nat → Option zz_C} {s : mS} {N : Nat} {d : Nat} (hd : 0 ≤ d) {Q : zz_O → zz_H → Prop}  {h : zz_H} {t t' : cS} {o : kY} (hR : kR h t s) (hf : cf_196_29 N X  t = some (t', o)) (k : (∀ h', kR h' t' s → kE o Q h')) : zz_J zp_P zt_tf zt_fd X d zm_196 29 [] [] h Q := by
  unfold cf_196_29 at hf
  cases hf
  exact cb_196_29 hR  (fun {h} hR => k h hR)
def cf_196_21 (N : Nat) (X : Nat → Option zz_C) (x3 : Int32) (t : cS) : kO := some (t, .inl (some (.int x3)))
theorem cr_196_21 {X : Nat → Option zz_C} {s : mS} {N : Nat} {d : Nat} (hd : 0 ≤ d) {Q : zz_O → zz_H → Prop} {x3 : Int32} {h : zz_H} {t t' : cS} {o : kY} (hR : kR h t s) (hf : cf_196_21 N X x3 t = some (t', o)) (k : (∀ h', kR h' t' s → kE o Q h')) : zz_J zp_P zt_tf zt_fd X d zm_196 21 [(3, .int x3)] [] h Q := by
  unfold cf_196_21 at hf
  cases hf
  exact cb_196_21 hR  (fun {h} hR => k h hR)
def cf_196_23 (N : Nat) (X : Nat → Option zz_C) (rc : Nat → Int64 → Int32 → cS → kO) (x1 : Int64) (x3 : Int32) (t : cS) : kO := rc 0 x1 (x3 + 1) t
theorem cr_196_23 {X : Nat → Option zz_C} {s : mS} {N : Nat} {d : Nat} (hd : 0 ≤ d) {rc : Nat → Int64 → Int32 → cS → kO} (hrc0 : ∀ {Q : zz_O → zz_H → Prop} {x1 : Int64} {x3 : Int32} {h : zz_H} {t t' : cS} {o : kY}, kR h t s → rc 0 x1 x3 t = some (t', o) → (∀ h', kR h' t' s → kE o Q h') → zz_J zp_P zt_tf zt_fd X d zm_196 2 [(0, .ref 2), (1, .long x1), (3, .int x3)] [] h Q) {Q : zz_O → zz_H → Prop} {x1 : Int64} {x3 : Int32} {h : zz_H} {t t' : cS} {o : kY} (hR : kR h t s) (hf : cf_196_23 N X rc x1 x3 t = some (t', o)) (k : (∀ h', kR h' t' s → kE o Q h')) : zz_J zp_P zt_tf zt_fd X d zm_196 23 [(0, .ref 2), (1, .long x1), (3, .int x3)] [] h Q := by
  unfold cf_196_23 at hf
  exact cb_196_23 hR  (fun hR => hrc0 hR hf k)
def cf_196_10 (N : Nat) (X : Nat → Option zz_C) (rc : Nat → Int64 → Int32 → cS → kO) (x1 : Int64) (x3 : Int32) (t : cS) : kO := if ¬ (x3 < 0 ∨ (kB t 7).1 ≤ (Int32.toNatClampNeg x3)) then (if ¬ (lg_cmp ((kB t 7).2 (Int32.toNatClampNeg x3)) x1) = 0 then cf_196_23 N X rc x1 x3 t else cf_196_21 N X x3 t) else none
theorem cr_196_10 {X : Nat → Option zz_C} {s : mS} {N : Nat} {d : Nat} (hd : 0 ≤ d) {rc : Nat → Int64 → Int32 → cS → kO} (hrc0 : ∀ {Q : zz_O → zz_H → Prop} {x1 : Int64} {x3 : Int32} {h : zz_H} {t t' : cS} {o : kY}, kR h t s → rc 0 x1 x3 t = some (t', o) → (∀ h', kR h' t' s → kE o Q h') → zz_J zp_P zt_tf zt_fd X d zm_196 2 [(0, .ref 2), (1, .long x1), (3, .int x3)] [] h Q) {Q : zz_O → zz_H → Prop} {x1 : Int64} {x3 : Int32} {h : zz_H} {t t' : cS} {o : kY} (hR : kR h t s) (hf : cf_196_10 N X rc x1 x3 t = some (t', o)) (k : (∀ h', kR h' t' s → kE o Q h')) : zz_J zp_P zt_tf zt_fd X d zm_196 10 [(0, .ref 2), (1, .long x1), (3, .int x3)] [] h Q := by
  unfold cf_196_10 at hf
  obtain ⟨e0, hf⟩ := ko_if hf
  refine cb_196_10 hR e0 (fun c {h} hR => ?_) (fun c {h} hR => ?_)
  · rw [if_pos c] at hf
    exact cr_196_23 hd hrc0 hR hf k
  · rw [if_neg c] at hf
    exact cr_196_21 hd hR hf k
def cf_196_2 (N : Nat) (X : Nat → Option zz_C) (rc : Nat → Int64 → Int32 → cS → kO) (x1 : Int64) (x3 : Int32) (t : cS) : kO := if (kI t 2 4) ≤ x3 then cf_196_29 N X  t else cf_196_10 N X rc x1 x3 t
theorem cr_196_2 {X : Nat → Option zz_C} {s : mS} {N : Nat} {d : Nat} (hd : 0 ≤ d) {rc : Nat → Int64 → Int32 → cS → kO} (hrc0 : ∀ {Q : zz_O → zz_H → Prop} {x1 : Int64} {x3 : Int32} {h : zz_H} {t t' : cS} {o : kY}, kR h t s → rc 0 x1 x3 t = some (t', o) → (∀ h', kR h' t' s → kE o Q h') → zz_J zp_P zt_tf zt_fd X d zm_196 2 [(0, .ref 2), (1, .long x1), (3, .int x3)] [] h Q) {Q : zz_O → zz_H → Prop} {x1 : Int64} {x3 : Int32} {h : zz_H} {t t' : cS} {o : kY} (hR : kR h t s) (hf : cf_196_2 N X rc x1 x3 t = some (t', o)) (k : (∀ h', kR h' t' s → kE o Q h')) : zz_J zp_P zt_tf zt_fd X d zm_196 2 [(0, .ref 2), (1, .long x1), (3, .int x3)] [] h Q := by
  unfold cf_196_2 at hf
  refine cb_196_2 hR  (fun c {h} hR => ?_) (fun c {h} hR => ?_)
  · rw [if_pos c] at hf
    exact cr_196_29 hd hR hf k
  · rw [if_neg c] at hf
    exact cr_196_10 hd hrc0 hR hf k
def cf_196_L2 (N : Nat) (X : Nat → Option zz_C) : Nat → Nat → Int64 → Int32 → cS → kO
  | 0, _, _, _, _ => none
  | n + 1, l, x1, x3, t => if l = 0 then cf_196_2 N X (cf_196_L2 N X n) x1 x3 t else none
theorem cr_196_L2 {X : Nat → Option zz_C} {s : mS} {N : Nat} {d : Nat} (hd : 0 ≤ d) : ∀ n : Nat, (∀ {Q : zz_O → zz_H → Prop} {x1 : Int64} {x3 : Int32} {h : zz_H} {t t' : cS} {o : kY}, kR h t s → cf_196_L2 N X n 0 x1 x3 t = some (t', o) → (∀ h', kR h' t' s → kE o Q h') → zz_J zp_P zt_tf zt_fd X d zm_196 2 [(0, .ref 2), (1, .long x1), (3, .int x3)] [] h Q) := by
  intro n
  induction n with
  | zero => exact (fun _ hf _ => by cases hf)
  | succ n ih =>
    have h0 := @ih
    intro Q _ _ h t t' o hR hf k
    unfold cf_196_L2 at hf
    rw [if_pos rfl] at hf
    exact cr_196_2 hd h0 hR hf k
def cf_196_0 (N : Nat) (X : Nat → Option zz_C) (x1 : Int64) (t : cS) : kO := cf_196_L2 N X N 0 x1 0 t
theorem cr_196_0 {X : Nat → Option zz_C} {s : mS} {N : Nat} {d : Nat} (hd : 0 ≤ d) {Q : zz_O → zz_H → Prop} {x1 : Int64} {h : zz_H} {t t' : cS} {o : kY} (hR : kR h t s) (hf : cf_196_0 N X x1 t = some (t', o)) (k : (∀ h', kR h' t' s → kE o Q h')) : zz_J zp_P zt_tf zt_fd X d zm_196 0 [(0, .ref 2), (1, .long x1)] [] h Q := by
  unfold cf_196_0 at hf
  exact cb_196_0 hR  (fun hR => cr_196_L2 hd N hR hf k)
/-- variableNumber -/
def cf_196 (N : Nat) (X : Nat → Option zz_C) (x1 : Int64) (t : cS) : kO := cf_196_0 N X x1 t
theorem cr_196 {X : Nat → Option zz_C} {s : mS} {N : Nat} {d : Nat} (hd : 0 ≤ d) {Q : zz_O → zz_H → Prop} {x1 : Int64} {h : zz_H} {t t' : cS} {o : kY} (hR : kR h t s) (hf : cf_196 N X x1 t = some (t', o)) (k : ∀ h', kR h' t' s → kE o Q h') : zz_J zp_P zt_tf zt_fd X d zm_196 0 [(0, .ref 2), (1, .long x1)] [] h Q := by
  unfold cf_196 at hf
  exact zz_J.weak (cr_196_0 hd hR hf k) rfl ⟨rfl, rfl, trivial⟩
