/-! yX12_isShelf (I)Z -/
theorem cb_21_0 {X : Nat → Option zz_C} {h : zz_H} {t : cS} {s : mS} {d : Nat} {Q : zz_O → zz_H → Prop} {x0 : Int32} (hR : kR h t s) (k1 : x0 < 0 → (∀ {h : zz_H}, kR h t s → zz_J zp_P zt_tf zt_fd X d zm_21 14 [] [] h Q)) (k2 : ¬ x0 < 0 → (∀ {h : zz_H}, kR h t s → zz_J zp_P zt_tf zt_fd X d zm_21 4 [(0, .int x0)] [] h Q)) : zz_J zp_P zt_tf zt_fd X d zm_21 0 [(0, .int x0)] [] h Q := by
  refine zz_J.n 1 rfl rfl rfl ?_
  refine zz_J.b1 14 4 (A := x0 < 0) rfl rfl (by decide) rfl rfl (fun c => ?_) (fun c => ?_)
  · exact zz_J.weak (k1 c hR) rfl trivial
  · exact zz_J.weak (k2 c hR) rfl ⟨rfl, trivial⟩
theorem cb_21_4 {X : Nat → Option zz_C} {h : zz_H} {t : cS} {s : mS} {d : Nat} {Q : zz_O → zz_H → Prop} {x0 : Int32} (hR : kR h t s) (k1 : 8 ≤ x0 → (∀ {h : zz_H}, kR h t s → zz_J zp_P zt_tf zt_fd X d zm_21 14 [] [] h Q)) (k2 : ¬ 8 ≤ x0 → (∀ {h : zz_H}, kR h t s → zz_J zp_P zt_tf zt_fd X d zm_21 10 [] [] h Q)) : zz_J zp_P zt_tf zt_fd X d zm_21 4 [(0, .int x0)] [] h Q := by
  refine zz_J.n 5 rfl rfl rfl ?_
  refine zz_J.c 7 (.int 8) rfl rfl rfl rfl ?_
  refine zz_J.b2 14 10 (A := 8 ≤ x0) rfl rfl (by decide) rfl rfl (fun c => ?_) (fun c => ?_)
  · exact zz_J.weak (k1 c hR) rfl trivial
  · exact zz_J.weak (k2 c hR) rfl trivial
theorem cb_21_10 {X : Nat → Option zz_C} {h : zz_H} {t : cS} {s : mS} {d : Nat} {Q : zz_O → zz_H → Prop}  (hR : kR h t s) (k : ∀ {h : zz_H}, kR h t s → zz_J zp_P zt_tf zt_fd X d zm_21 15 [] [.int 1] h Q) : zz_J zp_P zt_tf zt_fd X d zm_21 10 [] [] h Q := by
  refine zz_J.c 11 (.int 1) rfl rfl rfl rfl ?_
  refine zz_J.n 15 rfl rfl rfl ?_
  exact zz_J.weak (k hR) rfl trivial
theorem cb_21_14 {X : Nat → Option zz_C} {h : zz_H} {t : cS} {s : mS} {d : Nat} {Q : zz_O → zz_H → Prop}  (hR : kR h t s) (k : ∀ {h : zz_H}, kR h t s → zz_J zp_P zt_tf zt_fd X d zm_21 15 [] [.int 0] h Q) : zz_J zp_P zt_tf zt_fd X d zm_21 14 [] [] h Q := by
  refine zz_J.c 15 (.int 0) rfl rfl rfl rfl ?_
  exact zz_J.weak (k hR) rfl trivial
theorem cb_21_15 {X : Nat → Option zz_C} {h : zz_H} {t : cS} {s : mS} {d : Nat} {Q : zz_O → zz_H → Prop} {y0 : Int32} (hR : kR h t s) (k : ∀ {h : zz_H}, kR h t s → Q (.inl (some (.int y0))) h) (rb : zz_reti (some .boolean) y0 = true) : zz_J zp_P zt_tf zt_fd X d zm_21 15 [] [.int y0] h Q := by
  refine zz_J.ret rfl rfl (if_pos ⟨rfl, rb⟩) ?_
  exact k hR
def cf_21_15 (N : Nat) (X : Nat → Option zz_C) (y0 : Int32) (t : cS) : kO := if zz_reti (some .boolean) y0 = true then some (t, .inl (some (.int y0))) else none
theorem cr_21_15 {X : Nat → Option zz_C} {s : mS} {N : Nat} {d : Nat} (hd : 0 ≤ d) {Q : zz_O → zz_H → Prop} {y0 : Int32} {h : zz_H} {t t' : cS} {o : kY} (hR : kR h t s) (hf : cf_21_15 N X y0 t = some (t', o)) (k : (∀ h', kR h' t' s → kE o Q h')) : zz_J zp_P zt_tf zt_fd X d zm_21 15 [] [.int y0] h Q := by
  unfold cf_21_15 at hf
  obtain ⟨rb, hf⟩ := ko_if hf
  cases hf
  exact cb_21_15 hR  (fun {h} hR => k h hR) rb
def cf_21_14 (N : Nat) (X : Nat → Option zz_C)  (t : cS) : kO := cf_21_15 N X 0 t
theorem cr_21_14 {X : Nat → Option zz_C} {s : mS} {N : Nat} {d : Nat} (hd : 0 ≤ d) {Q : zz_O → zz_H → Prop}  {h : zz_H} {t t' : cS} {o : kY} (hR : kR h t s) (hf : cf_21_14 N X  t = some (t', o)) (k : (∀ h', kR h' t' s → kE o Q h')) : zz_J zp_P zt_tf zt_fd X d zm_21 14 [] [] h Q := by
  unfold cf_21_14 at hf
  exact cb_21_14 hR  (fun hR => cr_21_15 hd hR hf k)
def cf_21_10 (N : Nat) (X : Nat → Option zz_C)  (t : cS) : kO := cf_21_15 N X 1 t
theorem cr_21_10 {X : Nat → Option zz_C} {s : mS} {N : Nat} {d : Nat} (hd : 0 ≤ d) {Q : zz_O → zz_H → Prop}  {h : zz_H} {t t' : cS} {o : kY} (hR : kR h t s) (hf : cf_21_10 N X  t = some (t', o)) (k : (∀ h', kR h' t' s → kE o Q h')) : zz_J zp_P zt_tf zt_fd X d zm_21 10 [] [] h Q := by
  unfold cf_21_10 at hf
  exact cb_21_10 hR  (fun hR => cr_21_15 hd hR hf k)
def cf_21_4 (N : Nat) (X : Nat → Option zz_C) (x0 : Int32) (t : cS) : kO := if 8 ≤ x0 then cf_21_14 N X  t else cf_21_10 N X  t
theorem cr_21_4 {X : Nat → Option zz_C} {s : mS} {N : Nat} {d : Nat} (hd : 0 ≤ d) {Q : zz_O → zz_H → Prop} {x0 : Int32} {h : zz_H} {t t' : cS} {o : kY} (hR : kR h t s) (hf : cf_21_4 N X x0 t = some (t', o)) (k : (∀ h', kR h' t' s → kE o Q h')) : zz_J zp_P zt_tf zt_fd X d zm_21 4 [(0, .int x0)] [] h Q := by
  unfold cf_21_4 at hf
  refine cb_21_4 hR  (fun c {h} hR => ?_) (fun c {h} hR => ?_)
  · rw [if_pos c] at hf
    exact cr_21_14 hd hR hf k
  · rw [if_neg c] at hf
    exact cr_21_10 hd hR hf k
def cf_21_0 (N : Nat) (X : Nat → Option zz_C) (x0 : Int32) (t : cS) : kO := if x0 < 0 then cf_21_14 N X  t else cf_21_4 N X x0 t
theorem cr_21_0 {X : Nat → Option zz_C} {s : mS} {N : Nat} {d : Nat} (hd : 0 ≤ d) {Q : zz_O → zz_H → Prop} {x0 : Int32} {h : zz_H} {t t' : cS} {o : kY} (hR : kR h t s) (hf : cf_21_0 N X x0 t = some (t', o)) (k : (∀ h', kR h' t' s → kE o Q h')) : zz_J zp_P zt_tf zt_fd X d zm_21 0 [(0, .int x0)] [] h Q := by
  unfold cf_21_0 at hf
  refine cb_21_0 hR  (fun c {h} hR => ?_) (fun c {h} hR => ?_)
  · rw [if_pos c] at hf
    exact cr_21_14 hd hR hf k
  · rw [if_neg c] at hf
    exact cr_21_4 hd hR hf k
/-- isShelf -/
def cf_21 (N : Nat) (X : Nat → Option zz_C) (x0 : Int32) (t : cS) : kO := cf_21_0 N X x0 t
theorem cr_21 {X : Nat → Option zz_C} {s : mS} {N : Nat} {d : Nat} (hd : 0 ≤ d) {Q : zz_O → zz_H → Prop} {x0 : Int32} {h : zz_H} {t t' : cS} {o : kY} (hR : kR h t s) (hf : cf_21 N X x0 t = some (t', o)) (k : ∀ h', kR h' t' s → kE o Q h') : zz_J zp_P zt_tf zt_fd X d zm_21 0 [(0, .int x0)] [] h Q := by
  unfold cf_21 at hf
  exact zz_J.weak (cr_21_0 hd hR hf k) rfl ⟨rfl, trivial⟩
/-! yX12_thing (II)J -/
theorem cb_253_0 {X : Nat → Option zz_C} {h : zz_H} {t : cS} {s : mS} {d : Nat} {Q : zz_O → zz_H → Prop} {x0 : Int32} {x1 : Int32} (hR : kR h t s) (k : ∀ {h : zz_H}, kR h t s → Q (.inl (some (.long (((Int32.toInt64 x0) <<< (Int32.toInt64 32 &&& 63)) ||| ((Int32.toInt64 x1) &&& 4294967295))))) h) : zz_J zp_P zt_tf zt_fd X d zm_253 0 [(0, .int x0), (1, .int x1)] [] h Q := by
  refine zz_J.n 1 rfl rfl rfl ?_
  refine zz_J.n 2 rfl rfl rfl ?_
  refine zz_J.c 4 (.int 32) rfl rfl rfl rfl ?_
  refine zz_J.n 5 rfl rfl rfl ?_
  refine zz_J.n 6 rfl rfl rfl ?_
  refine zz_J.n 7 rfl rfl rfl ?_
  refine zz_J.c 10 (.long 4294967295) rfl rfl rfl rfl ?_
  refine zz_J.n 11 rfl rfl rfl ?_
  refine zz_J.n 12 rfl rfl rfl ?_
  refine zz_J.ret rfl rfl rfl ?_
  exact k hR
def cf_253_0 (N : Nat) (X : Nat → Option zz_C) (x0 : Int32) (x1 : Int32) (t : cS) : kO := some (t, .inl (some (.long (((Int32.toInt64 x0) <<< (Int32.toInt64 32 &&& 63)) ||| ((Int32.toInt64 x1) &&& 4294967295)))))
theorem cr_253_0 {X : Nat → Option zz_C} {s : mS} {N : Nat} {d : Nat} (hd : 0 ≤ d) {Q : zz_O → zz_H → Prop} {x0 : Int32} {x1 : Int32} {h : zz_H} {t t' : cS} {o : kY} (hR : kR h t s) (hf : cf_253_0 N X x0 x1 t = some (t', o)) (k : (∀ h', kR h' t' s → kE o Q h')) : zz_J zp_P zt_tf zt_fd X d zm_253 0 [(0, .int x0), (1, .int x1)] [] h Q := by
  unfold cf_253_0 at hf
  cases hf
  exact cb_253_0 hR  (fun {h} hR => k h hR)
/-- thing -/
def cf_253 (N : Nat) (X : Nat → Option zz_C) (x0 : Int32) (x1 : Int32) (t : cS) : kO := cf_253_0 N X x0 x1 t
theorem cr_253 {X : Nat → Option zz_C} {s : mS} {N : Nat} {d : Nat} (hd : 0 ≤ d) {Q : zz_O → zz_H → Prop} {x0 : Int32} {x1 : Int32} {h : zz_H} {t t' : cS} {o : kY} (hR : kR h t s) (hf : cf_253 N X x0 x1 t = some (t', o)) (k : ∀ h', kR h' t' s → kE o Q h') : zz_J zp_P zt_tf zt_fd X d zm_253 0 [(0, .int x0), (1, .int x1)] [] h Q := by
  unfold cf_253 at hf
  exact zz_J.weak (cr_253_0 hd hR hf k) rfl ⟨rfl, rfl, trivial⟩
/-! yX12_kindOf (J)I -/
theorem cb_255_0 {X : Nat → Option zz_C} {h : zz_H} {t : cS} {s : mS} {d : Nat} {Q : zz_O → zz_H → Prop} {x0 : Int64} (hR : kR h t s) (k : ∀ {h : zz_H}, kR h t s → Q (.inl (some (.int (Int64.toInt32 (x0 >>> (Int32.toInt64 32 &&& 63)))))) h) : zz_J zp_P zt_tf zt_fd X d zm_255 0 [(0, .long x0)] [] h Q := by
  refine zz_J.n 1 rfl rfl rfl ?_
  refine zz_J.c 3 (.int 32) rfl rfl rfl rfl ?_
  refine zz_J.n 4 rfl rfl rfl ?_
  refine zz_J.n 5 rfl rfl rfl ?_
  refine zz_J.ret rfl rfl rfl ?_
  exact k hR
def cf_255_0 (N : Nat) (X : Nat → Option zz_C) (x0 : Int64) (t : cS) : kO := some (t, .inl (some (.int (Int64.toInt32 (x0 >>> (Int32.toInt64 32 &&& 63))))))
theorem cr_255_0 {X : Nat → Option zz_C} {s : mS} {N : Nat} {d : Nat} (hd : 0 ≤ d) {Q : zz_O → zz_H → Prop} {x0 : Int64} {h : zz_H} {t t' : cS} {o : kY} (hR : kR h t s) (hf : cf_255_0 N X x0 t = some (t', o)) (k : (∀ h', kR h' t' s → kE o Q h')) : zz_J zp_P zt_tf zt_fd X d zm_255 0 [(0, .long x0)] [] h Q := by
  unfold cf_255_0 at hf
  cases hf
  exact cb_255_0 hR  (fun {h} hR => k h hR)
/-- kindOf -/
def cf_255 (N : Nat) (X : Nat → Option zz_C) (x0 : Int64) (t : cS) : kO := cf_255_0 N X x0 t
theorem cr_255 {X : Nat → Option zz_C} {s : mS} {N : Nat} {d : Nat} (hd : 0 ≤ d) {Q : zz_O → zz_H → Prop} {x0 : Int64} {h : zz_H} {t t' : cS} {o : kY} (hR : kR h t s) (hf : cf_255 N X x0 t = some (t', o)) (k : ∀ h', kR h' t' s → kE o Q h') : zz_J zp_P zt_tf zt_fd X d zm_255 0 [(0, .long x0)] [] h Q := by
  unfold cf_255 at hf
  exact zz_J.weak (cr_255_0 hd hR hf k) rfl ⟨rfl, trivial⟩
/-! yX3_loadVariable (II)V -/
theorem cb_147_0 {X : Nat → Option zz_C} {h : zz_H} {t : cS} {s : mS} {d : Nat} {Q : zz_O → zz_H → Prop} {x1 : Int32} {x2 : Int32} (hR : kR h t s) (k : ∀ {h : zz_H}, kR h t s → zz_J zp_P zt_tf zt_fd X d zm_253 0 [(0, .int (-1)), (1, .int 0)] [] h (zz_after 1000 Q (fun v h' => zz_J zp_P zt_tf zt_fd X (d + 1) zm_147 5 [(0, .ref 49), (1, .int x1), (2, .int x2)] (v.toList ++ []) h' Q))) : zz_J zp_P zt_tf zt_fd X (d + 1) zm_147 0 [(0, .ref 49), (1, .int x1), (2, .int x2)] [] h Q := by
  refine zz_J.c 1 (.int (-1)) rfl rfl rfl rfl ?_
  refine zz_J.c 2 (.int 0) rfl rfl rfl rfl ?_
  refine zz_J.cl (M' := zm_253) 5 rfl rfl (by decide) rfl rfl ⟨rfl, Nat.le_of_ble_eq_true rfl⟩ rfl ?_
  refine zz_J.mono (k hR) ?_
  intro o h' hE
  cases o with
  | inl v => exact zz_J.weak hE rfl ⟨rfl, rfl, rfl, trivial⟩
  | inr q => exact hE
theorem cb_147_5 {X : Nat → Option zz_C} {h : zz_H} {t : cS} {s : mS} {d : Nat} {Q : zz_O → zz_H → Prop} {x1 : Int32} {x2 : Int32} {y0 : Int64} (hR : kR h t s) (k1 : 0 ≤ x1 → (∀ {h : zz_H}, kR h t s → zz_J zp_P zt_tf zt_fd X d zm_147 38 [(0, .ref 49), (1, .int x1), (2, .int x2), (3, .long y0)] [] h Q)) (k2 : ¬ 0 ≤ x1 → (∀ {h : zz_H}, kR h t s → zz_J zp_P zt_tf zt_fd X d zm_147 10 [(0, .ref 49), (1, .int x1), (2, .int x2), (3, .long y0)] [] h Q)) : zz_J zp_P zt_tf zt_fd X d zm_147 5 [(0, .ref 49), (1, .int x1), (2, .int x2)] [.long y0] h Q := by
  refine zz_J.n 6 rfl rfl rfl ?_
  refine zz_J.n 7 rfl rfl rfl ?_
  refine zz_J.b1 38 10 (A := 0 ≤ x1) rfl rfl (by decide) rfl rfl (fun c => ?_) (fun c => ?_)
  · exact zz_J.weak (k1 c hR) rfl ⟨rfl, rfl, rfl, rfl, trivial⟩
  · exact zz_J.weak (k2 c hR) rfl ⟨rfl, rfl, rfl, rfl, trivial⟩
theorem cb_147_10 {X : Nat → Option zz_C} {h : zz_H} {t : cS} {s : mS} {d : Nat} {Q : zz_O → zz_H → Prop} {x1 : Int32} {x2 : Int32} {x3 : Int64} (hR : kR h t s) (k : ∀ {h : zz_H}, kR h t s → zz_J zp_P zt_tf zt_fd X d zm_21 0 [(0, .int ((-1) - x1))] [] h (zz_after 1000 Q (fun v h' => zz_J zp_P zt_tf zt_fd X (d + 1) zm_147 20 [(0, .ref 49), (2, .int x2), (3, .long x3), (5, .int ((-1) - x1))] (v.toList ++ []) h' Q))) : zz_J zp_P zt_tf zt_fd X (d + 1) zm_147 10 [(0, .ref 49), (1, .int x1), (2, .int x2), (3, .long x3)] [] h Q := by
  refine zz_J.c 11 (.int (-1)) rfl rfl rfl rfl ?_
  refine zz_J.n 12 rfl rfl rfl ?_
  refine zz_J.n 13 rfl rfl rfl ?_
  refine zz_J.n 15 rfl rfl rfl ?_
  refine zz_J.n 17 rfl rfl rfl ?_
  refine zz_J.cl (M' := zm_21) 20 rfl rfl (by decide) rfl rfl ⟨rfl, Nat.le_of_ble_eq_true rfl⟩ rfl ?_
  refine zz_J.mono (k hR) ?_
  intro o h' hE
  cases o with
  | inl v => exact zz_J.weak hE rfl ⟨rfl, rfl, rfl, rfl, trivial⟩
  | inr q => exact hE
theorem cb_147_20 {X : Nat → Option zz_C} {h : zz_H} {t : cS} {s : mS} {d : Nat} {Q : zz_O → zz_H → Prop} {x2 : Int32} {x3 : Int64} {x5 : Int32} {y0 : Int32} (hR : kR h t s) (k1 : y0 = 0 → (∀ {h : zz_H}, kR h t s → zz_J zp_P zt_tf zt_fd X d zm_147 33 [(0, .ref 49), (2, .int x2), (3, .long x3)] [] h Q)) (k2 : ¬ y0 = 0 → (∀ {h : zz_H}, kR h t s → zz_J zp_P zt_tf zt_fd X d zm_147 23 [(0, .ref 49), (2, .int x2), (5, .int x5)] [] h Q)) : zz_J zp_P zt_tf zt_fd X d zm_147 20 [(0, .ref 49), (2, .int x2), (3, .long x3), (5, .int x5)] [.int y0] h Q := by
  refine zz_J.b1 33 23 (A := y0 = 0) rfl rfl (by decide) rfl rfl (fun c => ?_) (fun c => ?_)
  · exact zz_J.weak (k1 c hR) rfl ⟨rfl, rfl, rfl, trivial⟩
  · exact zz_J.weak (k2 c hR) rfl ⟨rfl, rfl, rfl, trivial⟩
theorem cb_147_23 {X : Nat → Option zz_C} {h : zz_H} {t : cS} {s : mS} {d : Nat} {Q : zz_O → zz_H → Prop} {x2 : Int32} {x5 : Int32} (hR : kR h t s) (e0 : ¬ (x5 < 0 ∨ (kB t 50).1 ≤ (Int32.toNatClampNeg x5))) (k : ∀ {h : zz_H}, kR h t s → zz_J zp_P zt_tf zt_fd X d zm_147 34 [(0, .ref 49), (2, .int x2)] [.long ((kB t 50).2 (Int32.toNatClampNeg x5))] h Q) : zz_J zp_P zt_tf zt_fd X d zm_147 23 [(0, .ref 49), (2, .int x2), (5, .int x5)] [] h Q := by
  refine zz_J.n 24 rfl rfl rfl ?_
  refine zz_J.g 27 rfl (hR.gv (v := .ref (kD t 50)) ko_49 (by decide) rfl) rfl ?_
  refine zz_J.n 29 rfl rfl rfl ?_
  refine zz_J.al 30 rfl (hR.al (w := ((kB t 50).2 (Int32.toNatClampNeg x5))) ka_50 rfl e0 rfl) rfl ?_
  refine zz_J.n 34 rfl rfl rfl ?_
  exact zz_J.weak (k hR) rfl ⟨rfl, rfl, trivial⟩
theorem cb_147_33 {X : Nat → Option zz_C} {h : zz_H} {t : cS} {s : mS} {d : Nat} {Q : zz_O → zz_H → Prop} {x2 : Int32} {x3 : Int64} (hR : kR h t s) (k : ∀ {h : zz_H}, kR h t s → zz_J zp_P zt_tf zt_fd X d zm_147 34 [(0, .ref 49), (2, .int x2)] [.long x3] h Q) : zz_J zp_P zt_tf zt_fd X d zm_147 33 [(0, .ref 49), (2, .int x2), (3, .long x3)] [] h Q := by
  refine zz_J.n 34 rfl rfl rfl ?_
  exact zz_J.weak (k hR) rfl ⟨rfl, rfl, trivial⟩
theorem cb_147_34 {X : Nat → Option zz_C} {h : zz_H} {t : cS} {s : mS} {d : Nat} {Q : zz_O → zz_H → Prop} {x2 : Int32} {y0 : Int64} (hR : kR h t s) (k : ∀ {h : zz_H}, kR h t s → zz_J zp_P zt_tf zt_fd X d zm_147 66 [(0, .ref 49), (2, .int x2), (3, .long y0)] [] h Q) : zz_J zp_P zt_tf zt_fd X d zm_147 34 [(0, .ref 49), (2, .int x2)] [.long y0] h Q := by
  refine zz_J.n 35 rfl rfl rfl ?_
  refine zz_J.n 66 rfl rfl rfl ?_
  exact zz_J.weak (k hR) rfl ⟨rfl, rfl, rfl, trivial⟩
theorem cb_147_38 {X : Nat → Option zz_C} {h : zz_H} {t : cS} {s : mS} {d : Nat} {Q : zz_O → zz_H → Prop} {x1 : Int32} {x2 : Int32} {x3 : Int64} (hR : kR h t s) (k : ∀ {h : zz_H}, kR h t s → zz_J zp_P zt_tf zt_fd X d zm_149 0 [(0, .ref 49), (1, .int x1)] [] h (zz_after 3 Q (fun v h' => zz_J zp_P zt_tf zt_fd X (d + 1) zm_147 43 [(0, .ref 49), (2, .int x2), (3, .long x3)] (v.toList ++ []) h' Q))) : zz_J zp_P zt_tf zt_fd X (d + 1) zm_147 38 [(0, .ref 49), (1, .int x1), (2, .int x2), (3, .long x3)] [] h Q := by
  refine zz_J.n 39 rfl rfl rfl ?_
  refine zz_J.n 40 rfl rfl rfl ?_
  refine zz_J.cv 43 (as := []) rfl rfl (hR.clO ko_49 (by decide) (by decide)) (by decide) (Nat.le_of_ble_eq_true rfl) (Nat.le_of_ble_eq_true rfl) rfl (Nat.le_of_ble_eq_true rfl) rfl ?_
  refine zz_J.mono (k hR) ?_
  intro o h' hE
  cases o with
  | inl v => exact zz_J.weak hE rfl ⟨rfl, rfl, rfl, trivial⟩
  | inr q => exact hE
theorem cb_147_43 {X : Nat → Option zz_C} {h : zz_H} {t : cS} {s : mS} {d : Nat} {Q : zz_O → zz_H → Prop} {x2 : Int32} {x3 : Int64} {y0 : Int32} (hR : kR h t s) (k1 : (kI t 49 8) ≤ y0 → (∀ {h : zz_H}, kR h t s → zz_J zp_P zt_tf zt_fd X d zm_147 64 [(0, .ref 49), (2, .int x2), (3, .long x3)] [] h Q)) (k2 : ¬ (kI t 49 8) ≤ y0 → (∀ {h : zz_H}, kR h t s → zz_J zp_P zt_tf zt_fd X d zm_147 54 [(0, .ref 49), (2, .int x2), (5, .int y0)] [] h Q)) : zz_J zp_P zt_tf zt_fd X d zm_147 43 [(0, .ref 49), (2, .int x2), (3, .long x3)] [.int y0] h Q := by
  refine zz_J.n 45 rfl rfl rfl ?_
  refine zz_J.n 47 rfl rfl rfl ?_
  refine zz_J.n 48 rfl rfl rfl ?_
  refine zz_J.g 51 rfl (hR.gv (v := .int (kI t 49 8)) ko_49 (by decide) rfl) rfl ?_
  refine zz_J.b2 64 54 (A := (kI t 49 8) ≤ y0) rfl rfl (by decide) rfl rfl (fun c => ?_) (fun c => ?_)
  · exact zz_J.weak (k1 c hR) rfl ⟨rfl, rfl, rfl, trivial⟩
  · exact zz_J.weak (k2 c hR) rfl ⟨rfl, rfl, rfl, trivial⟩
theorem cb_147_54 {X : Nat → Option zz_C} {h : zz_H} {t : cS} {s : mS} {d : Nat} {Q : zz_O → zz_H → Prop} {x2 : Int32} {x5 : Int32} (hR : kR h t s) (e0 : ¬ (x5 < 0 ∨ (kB t 52).1 ≤ (Int32.toNatClampNeg x5))) (k : ∀ {h : zz_H}, kR h t s → zz_J zp_P zt_tf zt_fd X d zm_147 65 [(0, .ref 49), (2, .int x2)] [.long ((kB t 52).2 (Int32.toNatClampNeg x5))] h Q) : zz_J zp_P zt_tf zt_fd X d zm_147 54 [(0, .ref 49), (2, .int x2), (5, .int x5)] [] h Q := by
  refine zz_J.n 55 rfl rfl rfl ?_
  refine zz_J.g 58 rfl (hR.gv (v := .ref (kD t 52)) ko_49 (by decide) rfl) rfl ?_
  refine zz_J.n 60 rfl rfl rfl ?_
  refine zz_J.al 61 rfl (hR.al (w := ((kB t 52).2 (Int32.toNatClampNeg x5))) ka_52 rfl e0 rfl) rfl ?_
  refine zz_J.n 65 rfl rfl rfl ?_
  exact zz_J.weak (k hR) rfl ⟨rfl, rfl, trivial⟩
theorem cb_147_64 {X : Nat → Option zz_C} {h : zz_H} {t : cS} {s : mS} {d : Nat} {Q : zz_O → zz_H → Prop} {x2 : Int32} {x3 : Int64} (hR : kR h t s) (k : ∀ {h : zz_H}, kR h t s → zz_J zp_P zt_tf zt_fd X d zm_147 65 [(0, .ref 49), (2, .int x2)] [.long x3] h Q) : zz_J zp_P zt_tf zt_fd X d zm_147 64 [(0, .ref 49), (2, .int x2), (3, .long x3)] [] h Q := by
  refine zz_J.n 65 rfl rfl rfl ?_
  exact zz_J.weak (k hR) rfl ⟨rfl, rfl, trivial⟩
theorem cb_147_65 {X : Nat → Option zz_C} {h : zz_H} {t : cS} {s : mS} {d : Nat} {Q : zz_O → zz_H → Prop} {x2 : Int32} {y0 : Int64} (hR : kR h t s) (k : ∀ {h : zz_H}, kR h t s → zz_J zp_P zt_tf zt_fd X d zm_147 66 [(0, .ref 49), (2, .int x2), (3, .long y0)] [] h Q) : zz_J zp_P zt_tf zt_fd X d zm_147 65 [(0, .ref 49), (2, .int x2)] [.long y0] h Q := by
  refine zz_J.n 66 rfl rfl rfl ?_
  exact zz_J.weak (k hR) rfl ⟨rfl, rfl, rfl, trivial⟩
theorem cb_147_66 {X : Nat → Option zz_C} {h : zz_H} {t : cS} {s : mS} {d : Nat} {Q : zz_O → zz_H → Prop} {x2 : Int32} {x3 : Int64} (hR : kR h t s) (k : ∀ {h : zz_H}, kR h t s → zz_J zp_P zt_tf zt_fd X d zm_255 0 [(0, .long x3)] [] h (zz_after 1000 Q (fun v h' => zz_J zp_P zt_tf zt_fd X (d + 1) zm_147 70 [(0, .ref 49), (2, .int x2), (3, .long x3)] (v.toList ++ []) h' Q))) : zz_J zp_P zt_tf zt_fd X (d + 1) zm_147 66 [(0, .ref 49), (2, .int x2), (3, .long x3)] [] h Q := by
  refine zz_J.n 67 rfl rfl rfl ?_
  refine zz_J.cl (M' := zm_255) 70 rfl rfl (by decide) rfl rfl ⟨rfl, Nat.le_of_ble_eq_true rfl⟩ rfl ?_
  refine zz_J.mono (k hR) ?_
  intro o h' hE
  cases o with
  | inl v => exact zz_J.weak hE rfl ⟨rfl, rfl, rfl, trivial⟩
  | inr q => exact hE
theorem cb_147_70 {X : Nat → Option zz_C} {h : zz_H} {t : cS} {s : mS} {d : Nat} {Q : zz_O → zz_H → Prop} {x2 : Int32} {x3 : Int64} {y0 : Int32} (hR : kR h t s) (k1 : ¬ y0 = (-1) → (∀ {h : zz_H}, kR h t s → zz_J zp_P zt_tf zt_fd X d zm_147 85 [(0, .ref 49), (3, .long x3)] [] h Q)) (k2 : ¬ ¬ y0 = (-1) → (∀ {h : zz_H}, kR h t s → zz_J zp_P zt_tf zt_fd X d zm_147 74 [(0, .ref 49), (2, .int x2)] [] h Q)) : zz_J zp_P zt_tf zt_fd X d zm_147 70 [(0, .ref 49), (2, .int x2), (3, .long x3)] [.int y0] h Q := by
  refine zz_J.c 71 (.int (-1)) rfl rfl rfl rfl ?_
  refine zz_J.b2 85 74 (A := ¬ y0 = (-1)) rfl (zz_cond_ne _ _) (by decide) rfl rfl (fun c => ?_) (fun c => ?_)
  · exact zz_J.weak (k1 c hR) rfl ⟨rfl, rfl, trivial⟩
  · exact zz_J.weak (k2 c hR) rfl ⟨rfl, rfl, trivial⟩
theorem cb_147_74 {X : Nat → Option zz_C} {h : zz_H} {t : cS} {s : mS} {d : Nat} {Q : zz_O → zz_H → Prop} {x2 : Int32} (hR : kR h t s) (k : ∀ {h : zz_H}, kR h t s → zz_J zp_P zt_tf zt_fd X d zm_156 0 [(0, .ref 49), (1, .int 7), (2, .int x2), (3, .int 0)] [] h (zz_after 3 Q (fun v h' => zz_J zp_P zt_tf zt_fd X (d + 1) zm_147 82 [] (v.toList ++ []) h' Q))) : zz_J zp_P zt_tf zt_fd X (d + 1) zm_147 74 [(0, .ref 49), (2, .int x2)] [] h Q := by
  refine zz_J.n 75 rfl rfl rfl ?_
  refine zz_J.c 77 (.int 7) rfl rfl rfl rfl ?_
  refine zz_J.n 78 rfl rfl rfl ?_
  refine zz_J.c 79 (.int 0) rfl rfl rfl rfl ?_
  refine zz_J.cv 82 (as := []) rfl rfl (hR.clO ko_49 (by decide) (by decide)) (by decide) (Nat.le_of_ble_eq_true rfl) (Nat.le_of_ble_eq_true rfl) rfl (Nat.le_of_ble_eq_true rfl) rfl ?_
  refine zz_J.mono (k hR) ?_
  intro o h' hE
  cases o with
  | inl v => exact zz_J.weak hE rfl trivial
  | inr q => exact hE
theorem cb_147_82 {X : Nat → Option zz_C} {h : zz_H} {t : cS} {s : mS} {d : Nat} {Q : zz_O → zz_H → Prop}  (hR : kR h t s) (k : ∀ {h : zz_H}, kR h t s → zz_J zp_P zt_tf zt_fd X d zm_147 90 [] [] h Q) : zz_J zp_P zt_tf zt_fd X d zm_147 82 [] [] h Q := by
  refine zz_J.n 90 rfl rfl rfl ?_
  exact zz_J.weak (k hR) rfl trivial
theorem cb_147_85 {X : Nat → Option zz_C} {h : zz_H} {t : cS} {s : mS} {d : Nat} {Q : zz_O → zz_H → Prop} {x3 : Int64} (hR : kR h t s) (k : ∀ {h : zz_H}, kR h t s → zz_J zp_P zt_tf zt_fd X d zm_165 0 [(0, .ref 49), (1, .long x3)] [] h (zz_after 3 Q (fun v h' => zz_J zp_P zt_tf zt_fd X (d + 1) zm_147 90 [] (v.toList ++ []) h' Q))) : zz_J zp_P zt_tf zt_fd X (d + 1) zm_147 85 [(0, .ref 49), (3, .long x3)] [] h Q := by
  refine zz_J.n 86 rfl rfl rfl ?_
  refine zz_J.n 87 rfl rfl rfl ?_
  refine zz_J.cv 90 (as := []) rfl rfl (hR.clO ko_49 (by decide) (by decide)) (by decide) (Nat.le_of_ble_eq_true rfl) (Nat.le_of_ble_eq_true rfl) rfl (Nat.le_of_ble_eq_true rfl) rfl ?_
  refine zz_J.mono (k hR) ?_
  intro o h' hE
  cases o with
  | inl v => exact zz_J.weak hE rfl trivial
  | inr q => exact hE
theorem cb_147_90 {X : Nat → Option zz_C} {h : zz_H} {t : cS} {s : mS} {d : Nat} {Q : zz_O → zz_H → Prop}  (hR : kR h t s) (k : ∀ {h : zz_H}, kR h t s → Q (.inl none) h) : zz_J zp_P zt_tf zt_fd X d zm_147 90 [] [] h Q := by
  refine zz_J.ret rfl rfl rfl ?_
  exact k hR
def cf_147_90 (N : Nat) (X : Nat → Option zz_C)  (t : cS) : kO := some (t, .inl none)
theorem cr_147_90 {X : Nat → Option zz_C} {s : mS} {N : Nat} {d : Nat} (hd : 10 ≤ d) {Q : zz_O → zz_H → Prop}  {h : zz_H} {t t' : cS} {o : kY} (hR : kR h t s) (hf : cf_147_90 N X  t = some (t', o)) (k : (∀ h', kR h' t' s → kE o Q h')) : zz_J zp_P zt_tf zt_fd X d zm_147 90 [] [] h Q := by
  unfold cf_147_90 at hf
  cases hf
  exact cb_147_90 hR  (fun {h} hR => k h hR)
def cf_147_85 (N : Nat) (X : Nat → Option zz_C) (x3 : Int64) (t : cS) : kO := ko_call 3 (cf_165 N X x3 t) (fun g1 v1 => co_v v1 (cf_147_90 N X  g1))
theorem cr_147_85 {X : Nat → Option zz_C} {s : mS} {N : Nat} {d : Nat} (hd : 10 ≤ d) {Q : zz_O → zz_H → Prop} {x3 : Int64} {h : zz_H} {t t' : cS} {o : kY} (hR : kR h t s) (hf : cf_147_85 N X x3 t = some (t', o)) (k : (∀ h', kR h' t' s → kE o Q h')) : zz_J zp_P zt_tf zt_fd X d zm_147 85 [(0, .ref 49), (3, .long x3)] [] h Q := by
  unfold cf_147_85 at hf
  obtain ⟨d', rfl⟩ : ∃ d', d = d' + 1 := ⟨d - 1, by omega⟩
  refine cb_147_85 hR  (fun {h} hR => ?_)
  rcases ko_call_ok hf with ⟨g1, v1, er, hf⟩ | ⟨g1, er, hq⟩
  · obtain ⟨hv, hf2⟩ := co_v_ok hf
    clear hf
    have hf := hf2
    clear hf2
    subst hv
    refine cr_165 (by omega) hR er (fun h hR => ?_)
    exact cr_147_90 hd hR hf k
  · refine cr_165 (by omega) hR er (fun h hR => ?_)
    exact ko_thrown hq hR k
def cf_147_82 (N : Nat) (X : Nat → Option zz_C)  (t : cS) : kO := cf_147_90 N X  t
theorem cr_147_82 {X : Nat → Option zz_C} {s : mS} {N : Nat} {d : Nat} (hd : 10 ≤ d) {Q : zz_O → zz_H → Prop}  {h : zz_H} {t t' : cS} {o : kY} (hR : kR h t s) (hf : cf_147_82 N X  t = some (t', o)) (k : (∀ h', kR h' t' s → kE o Q h')) : zz_J zp_P zt_tf zt_fd X d zm_147 82 [] [] h Q := by
  unfold cf_147_82 at hf
  exact cb_147_82 hR  (fun hR => cr_147_90 hd hR hf k)
def cf_147_74 (N : Nat) (X : Nat → Option zz_C) (x2 : Int32) (t : cS) : kO := ko_call 3 (cf_156 N X 7 x2 0 t) (fun g1 v1 => co_v v1 (cf_147_82 N X  g1))
theorem cr_147_74 {X : Nat → Option zz_C} {s : mS} {N : Nat} {d : Nat} (hd : 10 ≤ d) {Q : zz_O → zz_H → Prop} {x2 : Int32} {h : zz_H} {t t' : cS} {o : kY} (hR : kR h t s) (hf : cf_147_74 N X x2 t = some (t', o)) (k : (∀ h', kR h' t' s → kE o Q h')) : zz_J zp_P zt_tf zt_fd X d zm_147 74 [(0, .ref 49), (2, .int x2)] [] h Q := by
  unfold cf_147_74 at hf
  obtain ⟨d', rfl⟩ : ∃ d', d = d' + 1 := ⟨d - 1, by omega⟩
  refine cb_147_74 hR  (fun {h} hR => ?_)
  rcases ko_call_ok hf with ⟨g1, v1, er, hf⟩ | ⟨g1, er, hq⟩
  · obtain ⟨hv, hf2⟩ := co_v_ok hf
    clear hf
    have hf := hf2
    clear hf2
    subst hv
    refine cr_156 (by omega) hR er (fun h hR => ?_)
    exact cr_147_82 hd hR hf k
  · refine cr_156 (by omega) hR er (fun h hR => ?_)
    exact ko_thrown hq hR k
def cf_147_70 (N : Nat) (X : Nat → Option zz_C) (x2 : Int32) (x3 : Int64) (y0 : Int32) (t : cS) : kO := if ¬ y0 = (-1) then cf_147_85 N X x3 t else cf_147_74 N X x2 t
theorem cr_147_70 {X : Nat → Option zz_C} {s : mS} {N : Nat} {d : Nat} (hd : 10 ≤ d) {Q : zz_O → zz_H → Prop} {x2 : Int32} {x3 : Int64} {y0 : Int32} {h : zz_H} {t t' : cS} {o : kY} (hR : kR h t s) (hf : cf_147_70 N X x2 x3 y0 t = some (t', o)) (k : (∀ h', kR h' t' s → kE o Q h')) : zz_J zp_P zt_tf zt_fd X d zm_147 70 [(0, .ref 49), (2, .int x2), (3, .long x3)] [.int y0] h Q := by
  unfold cf_147_70 at hf
  refine cb_147_70 hR  (fun c {h} hR => ?_) (fun c {h} hR => ?_)
  · rw [if_pos c] at hf
    exact cr_147_85 hd hR hf k
  · rw [if_neg c] at hf
    exact cr_147_74 hd hR hf k
def cf_147_66 (N : Nat) (X : Nat → Option zz_C) (x2 : Int32) (x3 : Int64) (t : cS) : kO := ko_call 1000 (cf_255 N X x3 t) (fun g1 v1 => co_i v1 (fun y => cf_147_70 N X x2 x3 y g1))
theorem cr_147_66 {X : Nat → Option zz_C} {s : mS} {N : Nat} {d : Nat} (hd : 10 ≤ d) {Q : zz_O → zz_H → Prop} {x2 : Int32} {x3 : Int64} {h : zz_H} {t t' : cS} {o : kY} (hR : kR h t s) (hf : cf_147_66 N X x2 x3 t = some (t', o)) (k : (∀ h', kR h' t' s → kE o Q h')) : zz_J zp_P zt_tf zt_fd X d zm_147 66 [(0, .ref 49), (2, .int x2), (3, .long x3)] [] h Q := by
  unfold cf_147_66 at hf
  obtain ⟨d', rfl⟩ : ∃ d', d = d' + 1 := ⟨d - 1, by omega⟩
  refine cb_147_66 hR  (fun {h} hR => ?_)
  rcases ko_call_ok hf with ⟨g1, v1, er, hf⟩ | ⟨g1, er, hq⟩
  · obtain ⟨y, hv, hf2⟩ := co_i_ok hf
    clear hf
    have hf := hf2
    clear hf2
    subst hv
    refine cr_255 (by omega) hR er (fun h hR => ?_)
    exact cr_147_70 hd hR hf k
  · refine cr_255 (by omega) hR er (fun h hR => ?_)
    exact ko_thrown hq hR k
def cf_147_65 (N : Nat) (X : Nat → Option zz_C) (x2 : Int32) (y0 : Int64) (t : cS) : kO := cf_147_66 N X x2 y0 t
theorem cr_147_65 {X : Nat → Option zz_C} {s : mS} {N : Nat} {d : Nat} (hd : 10 ≤ d) {Q : zz_O → zz_H → Prop} {x2 : Int32} {y0 : Int64} {h : zz_H} {t t' : cS} {o : kY} (hR : kR h t s) (hf : cf_147_65 N X x2 y0 t = some (t', o)) (k : (∀ h', kR h' t' s → kE o Q h')) : zz_J zp_P zt_tf zt_fd X d zm_147 65 [(0, .ref 49), (2, .int x2)] [.long y0] h Q := by
  unfold cf_147_65 at hf
  exact cb_147_65 hR  (fun hR => cr_147_66 hd hR hf k)
def cf_147_64 (N : Nat) (X : Nat → Option zz_C) (x2 : Int32) (x3 : Int64) (t : cS) : kO := cf_147_65 N X x2 x3 t
theorem cr_147_64 {X : Nat → Option zz_C} {s : mS} {N : Nat} {d : Nat} (hd : 10 ≤ d) {Q : zz_O → zz_H → Prop} {x2 : Int32} {x3 : Int64} {h : zz_H} {t t' : cS} {o : kY} (hR : kR h t s) (hf : cf_147_64 N X x2 x3 t = some (t', o)) (k : (∀ h', kR h' t' s → kE o Q h')) : zz_J zp_P zt_tf zt_fd X d zm_147 64 [(0, .ref 49), (2, .int x2), (3, .long x3)] [] h Q := by
  unfold cf_147_64 at hf
  exact cb_147_64 hR  (fun hR => cr_147_65 hd hR hf k)
def cf_147_54 (N : Nat) (X : Nat → Option zz_C) (x2 : Int32) (x5 : Int32) (t : cS) : kO := if ¬ (x5 < 0 ∨ (kB t 52).1 ≤ (Int32.toNatClampNeg x5)) then (cf_147_65 N X x2 ((kB t 52).2 (Int32.toNatClampNeg x5)) t) else none
theorem cr_147_54 {X : Nat → Option zz_C} {s : mS} {N : Nat} {d : Nat} (hd : 10 ≤ d) {Q : zz_O → zz_H → Prop} {x2 : Int32} {x5 : Int32} {h : zz_H} {t t' : cS} {o : kY} (hR : kR h t s) (hf : cf_147_54 N X x2 x5 t = some (t', o)) (k : (∀ h', kR h' t' s → kE o Q h')) : zz_J zp_P zt_tf zt_fd X d zm_147 54 [(0, .ref 49), (2, .int x2), (5, .int x5)] [] h Q := by
  unfold cf_147_54 at hf
  obtain ⟨e0, hf⟩ := ko_if hf
  exact cb_147_54 hR e0 (fun hR => cr_147_65 hd hR hf k)
def cf_147_43 (N : Nat) (X : Nat → Option zz_C) (x2 : Int32) (x3 : Int64) (y0 : Int32) (t : cS) : kO := if (kI t 49 8) ≤ y0 then cf_147_64 N X x2 x3 t else cf_147_54 N X x2 y0 t
theorem cr_147_43 {X : Nat → Option zz_C} {s : mS} {N : Nat} {d : Nat} (hd : 10 ≤ d) {Q : zz_O → zz_H → Prop} {x2 : Int32} {x3 : Int64} {y0 : Int32} {h : zz_H} {t t' : cS} {o : kY} (hR : kR h t s) (hf : cf_147_43 N X x2 x3 y0 t = some (t', o)) (k : (∀ h', kR h' t' s → kE o Q h')) : zz_J zp_P zt_tf zt_fd X d zm_147 43 [(0, .ref 49), (2, .int x2), (3, .long x3)] [.int y0] h Q := by
  unfold cf_147_43 at hf
  refine cb_147_43 hR  (fun c {h} hR => ?_) (fun c {h} hR => ?_)
  · rw [if_pos c] at hf
    exact cr_147_64 hd hR hf k
  · rw [if_neg c] at hf
    exact cr_147_54 hd hR hf k
def cf_147_38 (N : Nat) (X : Nat → Option zz_C) (x1 : Int32) (x2 : Int32) (x3 : Int64) (t : cS) : kO := ko_call 3 (cf_149 N X x1 t) (fun g1 v1 => co_i v1 (fun y => cf_147_43 N X x2 x3 y g1))
theorem cr_147_38 {X : Nat → Option zz_C} {s : mS} {N : Nat} {d : Nat} (hd : 10 ≤ d) {Q : zz_O → zz_H → Prop} {x1 : Int32} {x2 : Int32} {x3 : Int64} {h : zz_H} {t t' : cS} {o : kY} (hR : kR h t s) (hf : cf_147_38 N X x1 x2 x3 t = some (t', o)) (k : (∀ h', kR h' t' s → kE o Q h')) : zz_J zp_P zt_tf zt_fd X d zm_147 38 [(0, .ref 49), (1, .int x1), (2, .int x2), (3, .long x3)] [] h Q := by
  unfold cf_147_38 at hf
  obtain ⟨d', rfl⟩ : ∃ d', d = d' + 1 := ⟨d - 1, by omega⟩
  refine cb_147_38 hR  (fun {h} hR => ?_)
  rcases ko_call_ok hf with ⟨g1, v1, er, hf⟩ | ⟨g1, er, hq⟩
  · obtain ⟨y, hv, hf2⟩ := co_i_ok hf
    clear hf
    have hf := hf2
    clear hf2
    subst hv
    refine cr_149 (by omega) hR er (fun h hR => ?_)
    exact cr_147_43 hd hR hf k
  · refine cr_149 (by omega) hR er (fun h hR => ?_)
    exact ko_thrown hq hR k
def cf_147_34 (N : Nat) (X : Nat → Option zz_C) (x2 : Int32) (y0 : Int64) (t : cS) : kO := cf_147_66 N X x2 y0 t
theorem cr_147_34 {X : Nat → Option zz_C} {s : mS} {N : Nat} {d : Nat} (hd : 10 ≤ d) {Q : zz_O → zz_H → Prop} {x2 : Int32} {y0 : Int64} {h : zz_H} {t t' : cS} {o : kY} (hR : kR h t s) (hf : cf_147_34 N X x2 y0 t = some (t', o)) (k : (∀ h', kR h' t' s → kE o Q h')) : zz_J zp_P zt_tf zt_fd X d zm_147 34 [(0, .ref 49), (2, .int x2)] [.long y0] h Q := by
  unfold cf_147_34 at hf
  exact cb_147_34 hR  (fun hR => cr_147_66 hd hR hf k)
def cf_147_33 (N : Nat) (X : Nat → Option zz_C) (x2 : Int32) (x3 : Int64) (t : cS) : kO := cf_147_34 N X x2 x3 t
theorem cr_147_33 {X : Nat → Option zz_C} {s : mS} {N : Nat} {d : Nat} (hd : 10 ≤ d) {Q : zz_O → zz_H → Prop} {x2 : Int32} {x3 : Int64} {h : zz_H} {t t' : cS} {o : kY} (hR : kR h t s) (hf : cf_147_33 N X x2 x3 t = some (t', o)) (k : (∀ h', kR h' t' s → kE o Q h')) : zz_J zp_P zt_tf zt_fd X d zm_147 33 [(0, .ref 49), (2, .int x2), (3, .long x3)] [] h Q := by
  unfold cf_147_33 at hf
  exact cb_147_33 hR  (fun hR => cr_147_34 hd hR hf k)
def cf_147_23 (N : Nat) (X : Nat → Option zz_C) (x2 : Int32) (x5 : Int32) (t : cS) : kO := if ¬ (x5 < 0 ∨ (kB t 50).1 ≤ (Int32.toNatClampNeg x5)) then (cf_147_34 N X x2 ((kB t 50).2 (Int32.toNatClampNeg x5)) t) else none
theorem cr_147_23 {X : Nat → Option zz_C} {s : mS} {N : Nat} {d : Nat} (hd : 10 ≤ d) {Q : zz_O → zz_H → Prop} {x2 : Int32} {x5 : Int32} {h : zz_H} {t t' : cS} {o : kY} (hR : kR h t s) (hf : cf_147_23 N X x2 x5 t = some (t', o)) (k : (∀ h', kR h' t' s → kE o Q h')) : zz_J zp_P zt_tf zt_fd X d zm_147 23 [(0, .ref 49), (2, .int x2), (5, .int x5)] [] h Q := by
  unfold cf_147_23 at hf
  obtain ⟨e0, hf⟩ := ko_if hf
  exact cb_147_23 hR e0 (fun hR => cr_147_34 hd hR hf k)
def cf_147_20 (N : Nat) (X : Nat → Option zz_C) (x2 : Int32) (x3 : Int64) (x5 : Int32) (y0 : Int32) (t : cS) : kO := if y0 = 0 then cf_147_33 N X x2 x3 t else cf_147_23 N X x2 x5 t
theorem cr_147_20 {X : Nat → Option zz_C} {s : mS} {N : Nat} {d : Nat} (hd : 10 ≤ d) {Q : zz_O → zz_H → Prop} {x2 : Int32} {x3 : Int64} {x5 : Int32} {y0 : Int32} {h : zz_H} {t t' : cS} {o : kY} (hR : kR h t s) (hf : cf_147_20 N X x2 x3 x5 y0 t = some (t', o)) (k : (∀ h', kR h' t' s → kE o Q h')) : zz_J zp_P zt_tf zt_fd X d zm_147 20 [(0, .ref 49), (2, .int x2), (3, .long x3), (5, .int x5)] [.int y0] h Q := by
  unfold cf_147_20 at hf
  refine cb_147_20 hR  (fun c {h} hR => ?_) (fun c {h} hR => ?_)
  · rw [if_pos c] at hf
    exact cr_147_33 hd hR hf k
  · rw [if_neg c] at hf
    exact cr_147_23 hd hR hf k
def cf_147_10 (N : Nat) (X : Nat → Option zz_C) (x1 : Int32) (x2 : Int32) (x3 : Int64) (t : cS) : kO := ko_call 1000 (cf_21 N X ((-1) - x1) t) (fun g1 v1 => co_i v1 (fun y => cf_147_20 N X x2 x3 ((-1) - x1) y g1))
theorem cr_147_10 {X : Nat → Option zz_C} {s : mS} {N : Nat} {d : Nat} (hd : 10 ≤ d) {Q : zz_O → zz_H → Prop} {x1 : Int32} {x2 : Int32} {x3 : Int64} {h : zz_H} {t t' : cS} {o : kY} (hR : kR h t s) (hf : cf_147_10 N X x1 x2 x3 t = some (t', o)) (k : (∀ h', kR h' t' s → kE o Q h')) : zz_J zp_P zt_tf zt_fd X d zm_147 10 [(0, .ref 49), (1, .int x1), (2, .int x2), (3, .long x3)] [] h Q := by
  unfold cf_147_10 at hf
  obtain ⟨d', rfl⟩ : ∃ d', d = d' + 1 := ⟨d - 1, by omega⟩
  refine cb_147_10 hR  (fun {h} hR => ?_)
  rcases ko_call_ok hf with ⟨g1, v1, er, hf⟩ | ⟨g1, er, hq⟩
  · obtain ⟨y, hv, hf2⟩ := co_i_ok hf
    clear hf
    have hf := hf2
    clear hf2
    subst hv
    refine cr_21 (by omega) hR er (fun h hR => ?_)
    exact cr_147_20 hd hR hf k
  · refine cr_21 (by omega) hR er (fun h hR => ?_)
    exact ko_thrown hq hR k
def cf_147_5 (N : Nat) (X : Nat → Option zz_C) (x1 : Int32) (x2 : Int32) (y0 : Int64) (t : cS) : kO := if 0 ≤ x1 then cf_147_38 N X x1 x2 y0 t else cf_147_10 N X x1 x2 y0 t
theorem cr_147_5 {X : Nat → Option zz_C} {s : mS} {N : Nat} {d : Nat} (hd : 10 ≤ d) {Q : zz_O → zz_H → Prop} {x1 : Int32} {x2 : Int32} {y0 : Int64} {h : zz_H} {t t' : cS} {o : kY} (hR : kR h t s) (hf : cf_147_5 N X x1 x2 y0 t = some (t', o)) (k : (∀ h', kR h' t' s → kE o Q h')) : zz_J zp_P zt_tf zt_fd X d zm_147 5 [(0, .ref 49), (1, .int x1), (2, .int x2)] [.long y0] h Q := by
  unfold cf_147_5 at hf
  refine cb_147_5 hR  (fun c {h} hR => ?_) (fun c {h} hR => ?_)
  · rw [if_pos c] at hf
    exact cr_147_38 hd hR hf k
  · rw [if_neg c] at hf
    exact cr_147_10 hd hR hf k
def cf_147_0 (N : Nat) (X : Nat → Option zz_C) (x1 : Int32) (x2 : Int32) (t : cS) : kO := ko_call 1000 (cf_253 N X (-1) 0 t) (fun g1 v1 => co_l v1 (fun y => cf_147_5 N X x1 x2 y g1))
theorem cr_147_0 {X : Nat → Option zz_C} {s : mS} {N : Nat} {d : Nat} (hd : 10 ≤ d) {Q : zz_O → zz_H → Prop} {x1 : Int32} {x2 : Int32} {h : zz_H} {t t' : cS} {o : kY} (hR : kR h t s) (hf : cf_147_0 N X x1 x2 t = some (t', o)) (k : (∀ h', kR h' t' s → kE o Q h')) : zz_J zp_P zt_tf zt_fd X d zm_147 0 [(0, .ref 49), (1, .int x1), (2, .int x2)] [] h Q := by
  unfold cf_147_0 at hf
  obtain ⟨d', rfl⟩ : ∃ d', d = d' + 1 := ⟨d - 1, by omega⟩
  refine cb_147_0 hR  (fun {h} hR => ?_)
  rcases ko_call_ok hf with ⟨g1, v1, er, hf⟩ | ⟨g1, er, hq⟩
  · obtain ⟨y, hv, hf2⟩ := co_l_ok hf
    clear hf
    have hf := hf2
    clear hf2
    subst hv
    refine cr_253 (by omega) hR er (fun h hR => ?_)
    exact cr_147_5 hd hR hf k
  · refine cr_253 (by omega) hR er (fun h hR => ?_)
    exact ko_thrown hq hR k
/-- loadVariable -/
def cf_147 (N : Nat) (X : Nat → Option zz_C) (x1 : Int32) (x2 : Int32) (t : cS) : kO := cf_147_0 N X x1 x2 t
theorem cr_147 {X : Nat → Option zz_C} {s : mS} {N : Nat} {d : Nat} (hd : 10 ≤ d) {Q : zz_O → zz_H → Prop} {x1 : Int32} {x2 : Int32} {h : zz_H} {t t' : cS} {o : kY} (hR : kR h t s) (hf : cf_147 N X x1 x2 t = some (t', o)) (k : ∀ h', kR h' t' s → kE o Q h') : zz_J zp_P zt_tf zt_fd X d zm_147 0 [(0, .ref 49), (1, .int x1), (2, .int x2)] [] h Q := by
  unfold cf_147 at hf
  exact zz_J.weak (cr_147_0 hd hR hf k) rfl ⟨rfl, rfl, rfl, trivial⟩
/-! yX3_peek (I)J -/
theorem cb_167_0 {X : Nat → Option zz_C} {h : zz_H} {t : cS} {s : mS} {d : Nat} {Q : zz_O → zz_H → Prop} {x1 : Int32} (hR : kR h t s) (k1 : x1 ≤ 0 → (∀ {h : zz_H}, kR h t s → zz_J zp_P zt_tf zt_fd X d zm_167 26 [] [] h Q)) (k2 : ¬ x1 ≤ 0 → (∀ {h : zz_H}, kR h t s → zz_J zp_P zt_tf zt_fd X d zm_167 4 [(0, .ref 49), (1, .int x1)] [] h Q)) : zz_J zp_P zt_tf zt_fd X d zm_167 0 [(0, .ref 49), (1, .int x1)] [] h Q := by
  refine zz_J.n 1 rfl rfl rfl ?_
  refine zz_J.b1 26 4 (A := x1 ≤ 0) rfl rfl (by decide) rfl rfl (fun c => ?_) (fun c => ?_)
  · exact zz_J.weak (k1 c hR) rfl trivial
  · exact zz_J.weak (k2 c hR) rfl ⟨rfl, rfl, trivial⟩
theorem cb_167_4 {X : Nat → Option zz_C} {h : zz_H} {t : cS} {s : mS} {d : Nat} {Q : zz_O → zz_H → Prop} {x1 : Int32} (hR : kR h t s) (k1 : (kI t 49 8) < x1 → (∀ {h : zz_H}, kR h t s → zz_J zp_P zt_tf zt_fd X d zm_167 26 [] [] h Q)) (k2 : ¬ (kI t 49 8) < x1 → (∀ {h : zz_H}, kR h t s → zz_J zp_P zt_tf zt_fd X d zm_167 12 [(0, .ref 49), (1, .int x1)] [] h Q)) : zz_J zp_P zt_tf zt_fd X d zm_167 4 [(0, .ref 49), (1, .int x1)] [] h Q := by
  refine zz_J.n 5 rfl rfl rfl ?_
  refine zz_J.n 6 rfl rfl rfl ?_
  refine zz_J.g 9 rfl (hR.gv (v := .int (kI t 49 8)) ko_49 (by decide) rfl) rfl ?_
  refine zz_J.b2 26 12 (A := (kI t 49 8) < x1) rfl rfl (by decide) rfl rfl (fun c => ?_) (fun c => ?_)
  · exact zz_J.weak (k1 c hR) rfl trivial
  · exact zz_J.weak (k2 c hR) rfl ⟨rfl, rfl, trivial⟩
theorem cb_167_12 {X : Nat → Option zz_C} {h : zz_H} {t : cS} {s : mS} {d : Nat} {Q : zz_O → zz_H → Prop} {x1 : Int32} (hR : kR h t s) (e0 : ¬ (((kI t 49 8) - x1) < 0 ∨ (kB t 52).1 ≤ (Int32.toNatClampNeg ((kI t 49 8) - x1)))) (k : ∀ {h : zz_H}, kR h t s → zz_J zp_P zt_tf zt_fd X d zm_167 31 [] [.long ((kB t 52).2 (Int32.toNatClampNeg ((kI t 49 8) - x1)))] h Q) : zz_J zp_P zt_tf zt_fd X d zm_167 12 [(0, .ref 49), (1, .int x1)] [] h Q := by
  refine zz_J.n 13 rfl rfl rfl ?_
  refine zz_J.g 16 rfl (hR.gv (v := .ref (kD t 52)) ko_49 (by decide) rfl) rfl ?_
  refine zz_J.n 17 rfl rfl rfl ?_
  refine zz_J.g 20 rfl (hR.gv (v := .int (kI t 49 8)) ko_49 (by decide) rfl) rfl ?_
  refine zz_J.n 21 rfl rfl rfl ?_
  refine zz_J.n 22 rfl rfl rfl ?_
  refine zz_J.al 23 rfl (hR.al (w := ((kB t 52).2 (Int32.toNatClampNeg ((kI t 49 8) - x1)))) ka_52 rfl e0 rfl) rfl ?_
  refine zz_J.n 31 rfl rfl rfl ?_
  exact zz_J.weak (k hR) rfl trivial
theorem cb_167_26 {X : Nat → Option zz_C} {h : zz_H} {t : cS} {s : mS} {d : Nat} {Q : zz_O → zz_H → Prop}  (hR : kR h t s) (k : ∀ {h : zz_H}, kR h t s → zz_J zp_P zt_tf zt_fd X d zm_253 0 [(0, .int 0), (1, .int 0)] [] h (zz_after 1000 Q (fun v h' => zz_J zp_P zt_tf zt_fd X (d + 1) zm_167 31 [] (v.toList ++ []) h' Q))) : zz_J zp_P zt_tf zt_fd X (d + 1) zm_167 26 [] [] h Q := by
  refine zz_J.c 27 (.int 0) rfl rfl rfl rfl ?_
  refine zz_J.c 28 (.int 0) rfl rfl rfl rfl ?_
  refine zz_J.cl (M' := zm_253) 31 rfl rfl (by decide) rfl rfl ⟨rfl, Nat.le_of_ble_eq_true rfl⟩ rfl ?_
  refine zz_J.mono (k hR) ?_
  intro o h' hE
  cases o with
  | inl v => exact zz_J.weak hE rfl trivial
  | inr q => exact hE
theorem cb_167_31 {X : Nat → Option zz_C} {h : zz_H} {t : cS} {s : mS} {d : Nat} {Q : zz_O → zz_H → Prop} {y0 : Int64} (hR : kR h t s) (k : ∀ {h : zz_H}, kR h t s → Q (.inl (some (.long y0))) h) : zz_J zp_P zt_tf zt_fd X d zm_167 31 [] [.long y0] h Q := by
  refine zz_J.ret rfl rfl rfl ?_
  exact k hR
def cf_167_31 (N : Nat) (X : Nat → Option zz_C) (y0 : Int64) (t : cS) : kO := some (t, .inl (some (.long y0)))
theorem cr_167_31 {X : Nat → Option zz_C} {s : mS} {N : Nat} {d : Nat} (hd : 1 ≤ d) {Q : zz_O → zz_H → Prop} {y0 : Int64} {h : zz_H} {t t' : cS} {o : kY} (hR : kR h t s) (hf : cf_167_31 N X y0 t = some (t', o)) (k : (∀ h', kR h' t' s → kE o Q h')) : zz_J zp_P zt_tf zt_fd X d zm_167 31 [] [.long y0] h Q := by
  unfold cf_167_31 at hf
  cases hf
  exact cb_167_31 hR  (fun {h} hR => k h hR)
def cf_167_26 (N : Nat) (X : Nat → Option zz_C)  (t : cS) : kO := ko_call 1000 (cf_253 N X 0 0 t) (fun g1 v1 => co_l v1 (fun y => cf_167_31 N X y g1))
theorem cr_167_26 {X : Nat → Option zz_C} {s : mS} {N : Nat} {d : Nat} (hd : 1 ≤ d) {Q : zz_O → zz_H → Prop}  {h : zz_H} {t t' : cS} {o : kY} (hR : kR h t s) (hf : cf_167_26 N X  t = some (t', o)) (k : (∀ h', kR h' t' s → kE o Q h')) : zz_J zp_P zt_tf zt_fd X d zm_167 26 [] [] h Q := by
  unfold cf_167_26 at hf
  obtain ⟨d', rfl⟩ : ∃ d', d = d' + 1 := ⟨d - 1, by omega⟩
  refine cb_167_26 hR  (fun {h} hR => ?_)
  rcases ko_call_ok hf with ⟨g1, v1, er, hf⟩ | ⟨g1, er, hq⟩
  · obtain ⟨y, hv, hf2⟩ := co_l_ok hf
    clear hf
    have hf := hf2
    clear hf2
    subst hv
    refine cr_253 (by omega) hR er (fun h hR => ?_)
    exact cr_167_31 hd hR hf k
  · refine cr_253 (by omega) hR er (fun h hR => ?_)
    exact ko_thrown hq hR k
def cf_167_12 (N : Nat) (X : Nat → Option zz_C) (x1 : Int32) (t : cS) : kO := if ¬ (((kI t 49 8) - x1) < 0 ∨ (kB t 52).1 ≤ (Int32.toNatClampNeg ((kI t 49 8) - x1))) then (cf_167_31 N X ((kB t 52).2 (Int32.toNatClampNeg ((kI t 49 8) - x1))) t) else none
theorem cr_167_12 {X : Nat → Option zz_C} {s : mS} {N : Nat} {d : Nat} (hd : 1 ≤ d) {Q : zz_O → zz_H → Prop} {x1 : Int32} {h : zz_H} {t t' : cS} {o : kY} (hR : kR h t s) (hf : cf_167_12 N X x1 t = some (t', o)) (k : (∀ h', kR h' t' s → kE o Q h')) : zz_J zp_P zt_tf zt_fd X d zm_167 12 [(0, .ref 49), (1, .int x1)] [] h Q := by
  unfold cf_167_12 at hf
  obtain ⟨e0, hf⟩ := ko_if hf
  exact cb_167_12 hR e0 (fun hR => cr_167_31 hd hR hf k)
def cf_167_4 (N : Nat) (X : Nat → Option zz_C) (x1 : Int32) (t : cS) : kO := if (kI t 49 8) < x1 then cf_167_26 N X  t else cf_167_12 N X x1 t
theorem cr_167_4 {X : Nat → Option zz_C} {s : mS} {N : Nat} {d : Nat} (hd : 1 ≤ d) {Q : zz_O → zz_H → Prop} {x1 : Int32} {h : zz_H} {t t' : cS} {o : kY} (hR : kR h t s) (hf : cf_167_4 N X x1 t = some (t', o)) (k : (∀ h', kR h' t' s → kE o Q h')) : zz_J zp_P zt_tf zt_fd X d zm_167 4 [(0, .ref 49), (1, .int x1)] [] h Q := by
  unfold cf_167_4 at hf
  refine cb_167_4 hR  (fun c {h} hR => ?_) (fun c {h} hR => ?_)
  · rw [if_pos c] at hf
    exact cr_167_26 hd hR hf k
  · rw [if_neg c] at hf
    exact cr_167_12 hd hR hf k
def cf_167_0 (N : Nat) (X : Nat → Option zz_C) (x1 : Int32) (t : cS) : kO := if x1 ≤ 0 then cf_167_26 N X  t else cf_167_4 N X x1 t
theorem cr_167_0 {X : Nat → Option zz_C} {s : mS} {N : Nat} {d : Nat} (hd : 1 ≤ d) {Q : zz_O → zz_H → Prop} {x1 : Int32} {h : zz_H} {t t' : cS} {o : kY} (hR : kR h t s) (hf : cf_167_0 N X x1 t = some (t', o)) (k : (∀ h', kR h' t' s → kE o Q h')) : zz_J zp_P zt_tf zt_fd X d zm_167 0 [(0, .ref 49), (1, .int x1)] [] h Q := by
  unfold cf_167_0 at hf
  refine cb_167_0 hR  (fun c {h} hR => ?_) (fun c {h} hR => ?_)
  · rw [if_pos c] at hf
    exact cr_167_26 hd hR hf k
  · rw [if_neg c] at hf
    exact cr_167_4 hd hR hf k
/-- peek -/
def cf_167 (N : Nat) (X : Nat → Option zz_C) (x1 : Int32) (t : cS) : kO := cf_167_0 N X x1 t
theorem cr_167 {X : Nat → Option zz_C} {s : mS} {N : Nat} {d : Nat} (hd : 1 ≤ d) {Q : zz_O → zz_H → Prop} {x1 : Int32} {h : zz_H} {t t' : cS} {o : kY} (hR : kR h t s) (hf : cf_167 N X x1 t = some (t', o)) (k : ∀ h', kR h' t' s → kE o Q h') : zz_J zp_P zt_tf zt_fd X d zm_167 0 [(0, .ref 49), (1, .int x1)] [] h Q := by
  unfold cf_167 at hf
  exact zz_J.weak (cr_167_0 hd hR hf k) rfl ⟨rfl, rfl, trivial⟩
/-! yX3_pop ()J -/
theorem cb_166_0 {X : Nat → Option zz_C} {h : zz_H} {t : cS} {s : mS} {d : Nat} {Q : zz_O → zz_H → Prop}  (hR : kR h t s) (k : ∀ {h : zz_H}, kR h t s → zz_J zp_P zt_tf zt_fd X d zm_167 0 [(0, .ref 49), (1, .int 1)] [] h (zz_after 3 Q (fun v h' => zz_J zp_P zt_tf zt_fd X (d + 1) zm_166 5 [(0, .ref 49)] (v.toList ++ []) h' Q))) : zz_J zp_P zt_tf zt_fd X (d + 1) zm_166 0 [(0, .ref 49)] [] h Q := by
  refine zz_J.n 1 rfl rfl rfl ?_
  refine zz_J.c 2 (.int 1) rfl rfl rfl rfl ?_
  refine zz_J.cv 5 (as := []) rfl rfl (hR.clO ko_49 (by decide) (by decide)) (by decide) (Nat.le_of_ble_eq_true rfl) (Nat.le_of_ble_eq_true rfl) rfl (Nat.le_of_ble_eq_true rfl) rfl ?_
  refine zz_J.mono (k hR) ?_
  intro o h' hE
  cases o with
  | inl v => exact zz_J.weak hE rfl ⟨rfl, trivial⟩
  | inr q => exact hE
theorem cb_166_5 {X : Nat → Option zz_C} {h : zz_H} {t : cS} {s : mS} {d : Nat} {Q : zz_O → zz_H → Prop} {y0 : Int64} (hR : kR h t s) (k : ∀ {h : zz_H}, kR h (jI t 49 8 (if (((kI t 49 8) - 1) : Int32) < 0 then 0 else ((kI t 49 8) - 1))) s → Q (.inl (some (.long y0))) h) : zz_J zp_P zt_tf zt_fd X (d + 1) zm_166 5 [(0, .ref 49)] [.long y0] h Q := by
  refine zz_J.n 6 rfl rfl rfl ?_
  refine zz_J.n 7 rfl rfl rfl ?_
  refine zz_J.n 8 rfl rfl rfl ?_
  refine zz_J.g 11 rfl (hR.gv (v := .int (kI t 49 8)) ko_49 (by decide) rfl) rfl ?_
  refine zz_J.c 12 (.int 1) rfl rfl rfl rfl ?_
  refine zz_J.n 13 rfl rfl rfl ?_
  refine zz_J.c 14 (.int 0) rfl rfl rfl rfl ?_
  refine zz_J.spec 17 rfl rfl (by decide) rfl rfl rfl ?_
  obtain ⟨h1, eq1, hR⟩ := hR.pI (x := (if (((kI t 49 8) - 1) : Int32) < 0 then 0 else ((kI t 49 8) - 1))) (by decide) ko_49 (kpi_49_8 _) (Nat.le_of_ble_eq_true rfl) rfl
  refine zz_J.pv 20 rfl eq1 rfl ?_
  clear eq1
  refine zz_J.n 21 rfl rfl rfl ?_
  refine zz_J.ret rfl rfl rfl ?_
  exact k hR
def cf_166_5 (N : Nat) (X : Nat → Option zz_C) (y0 : Int64) (t : cS) : kO := some ((jI t 49 8 (if (((kI t 49 8) - 1) : Int32) < 0 then 0 else ((kI t 49 8) - 1))), .inl (some (.long y0)))
theorem cr_166_5 {X : Nat → Option zz_C} {s : mS} {N : Nat} {d : Nat} (hd : 2 ≤ d) {Q : zz_O → zz_H → Prop} {y0 : Int64} {h : zz_H} {t t' : cS} {o : kY} (hR : kR h t s) (hf : cf_166_5 N X y0 t = some (t', o)) (k : (∀ h', kR h' t' s → kE o Q h')) : zz_J zp_P zt_tf zt_fd X d zm_166 5 [(0, .ref 49)] [.long y0] h Q := by
  unfold cf_166_5 at hf
  obtain ⟨d', rfl⟩ : ∃ d', d = d' + 1 := ⟨d - 1, by omega⟩
  cases hf
  exact cb_166_5 hR  (fun {h} hR => k h hR)
def cf_166_0 (N : Nat) (X : Nat → Option zz_C)  (t : cS) : kO := ko_call 3 (cf_167 N X 1 t) (fun g1 v1 => co_l v1 (fun y => cf_166_5 N X y g1))
theorem cr_166_0 {X : Nat → Option zz_C} {s : mS} {N : Nat} {d : Nat} (hd : 2 ≤ d) {Q : zz_O → zz_H → Prop}  {h : zz_H} {t t' : cS} {o : kY} (hR : kR h t s) (hf : cf_166_0 N X  t = some (t', o)) (k : (∀ h', kR h' t' s → kE o Q h')) : zz_J zp_P zt_tf zt_fd X d zm_166 0 [(0, .ref 49)] [] h Q := by
  unfold cf_166_0 at hf
  obtain ⟨d', rfl⟩ : ∃ d', d = d' + 1 := ⟨d - 1, by omega⟩
  refine cb_166_0 hR  (fun {h} hR => ?_)
  rcases ko_call_ok hf with ⟨g1, v1, er, hf⟩ | ⟨g1, er, hq⟩
  · obtain ⟨y, hv, hf2⟩ := co_l_ok hf
    clear hf
    have hf := hf2
    clear hf2
    subst hv
    refine cr_167 (by omega) hR er (fun h hR => ?_)
    exact cr_166_5 hd hR hf k
  · refine cr_167 (by omega) hR er (fun h hR => ?_)
    exact ko_thrown hq hR k
/-- pop -/
def cf_166 (N : Nat) (X : Nat → Option zz_C)  (t : cS) : kO := cf_166_0 N X  t
theorem cr_166 {X : Nat → Option zz_C} {s : mS} {N : Nat} {d : Nat} (hd : 2 ≤ d) {Q : zz_O → zz_H → Prop}  {h : zz_H} {t t' : cS} {o : kY} (hR : kR h t s) (hf : cf_166 N X  t = some (t', o)) (k : ∀ h', kR h' t' s → kE o Q h') : zz_J zp_P zt_tf zt_fd X d zm_166 0 [(0, .ref 49)] [] h Q := by
  unfold cf_166 at hf
  exact zz_J.weak (cr_166_0 hd hR hf k) rfl ⟨rfl, trivial⟩
/-! yX3_storeVariable (I)V -/
theorem cb_148_0 {X : Nat → Option zz_C} {h : zz_H} {t : cS} {s : mS} {d : Nat} {Q : zz_O → zz_H → Prop} {x1 : Int32} (hR : kR h t s) (k : ∀ {h : zz_H}, kR h t s → zz_J zp_P zt_tf zt_fd X d zm_166 0 [(0, .ref 49)] [] h (zz_after 3 Q (fun v h' => zz_J zp_P zt_tf zt_fd X (d + 1) zm_148 4 [(0, .ref 49), (1, .int x1)] (v.toList ++ []) h' Q))) : zz_J zp_P zt_tf zt_fd X (d + 1) zm_148 0 [(0, .ref 49), (1, .int x1)] [] h Q := by
  refine zz_J.n 1 rfl rfl rfl ?_
  refine zz_J.cv 4 (as := []) rfl rfl (hR.clO ko_49 (by decide) (by decide)) (by decide) (Nat.le_of_ble_eq_true rfl) (Nat.le_of_ble_eq_true rfl) rfl (Nat.le_of_ble_eq_true rfl) rfl ?_
  refine zz_J.mono (k hR) ?_
  intro o h' hE
  cases o with
  | inl v => exact zz_J.weak hE rfl ⟨rfl, rfl, trivial⟩
  | inr q => exact hE
theorem cb_148_4 {X : Nat → Option zz_C} {h : zz_H} {t : cS} {s : mS} {d : Nat} {Q : zz_O → zz_H → Prop} {x1 : Int32} {y0 : Int64} (hR : kR h t s) (k : ∀ {h : zz_H}, kR h t s → zz_J zp_P zt_tf zt_fd X d zm_149 0 [(0, .ref 49), (1, .int x1)] [] h (zz_after 3 Q (fun v h' => zz_J zp_P zt_tf zt_fd X (d + 1) zm_148 15 [(0, .ref 49), (2, .long y0), (4, .int ((-1) - x1))] (v.toList ++ []) h' Q))) : zz_J zp_P zt_tf zt_fd X (d + 1) zm_148 4 [(0, .ref 49), (1, .int x1)] [.long y0] h Q := by
  refine zz_J.n 5 rfl rfl rfl ?_
  refine zz_J.c 6 (.int (-1)) rfl rfl rfl rfl ?_
  refine zz_J.n 7 rfl rfl rfl ?_
  refine zz_J.n 8 rfl rfl rfl ?_
  refine zz_J.n 10 rfl rfl rfl ?_
  refine zz_J.n 11 rfl rfl rfl ?_
  refine zz_J.n 12 rfl rfl rfl ?_
  refine zz_J.cv 15 (as := []) rfl rfl (hR.clO ko_49 (by decide) (by decide)) (by decide) (Nat.le_of_ble_eq_true rfl) (Nat.le_of_ble_eq_true rfl) rfl (Nat.le_of_ble_eq_true rfl) rfl ?_
  refine zz_J.mono (k hR) ?_
  intro o h' hE
  cases o with
  | inl v => exact zz_J.weak hE rfl ⟨rfl, rfl, rfl, trivial⟩
  | inr q => exact hE
theorem cb_148_15 {X : Nat → Option zz_C} {h : zz_H} {t : cS} {s : mS} {d : Nat} {Q : zz_O → zz_H → Prop} {x2 : Int64} {x4 : Int32} {y0 : Int32} (hR : kR h t s) (k : ∀ {h : zz_H}, kR h t s → zz_J zp_P zt_tf zt_fd X d zm_21 0 [(0, .int x4)] [] h (zz_after 1000 Q (fun v h' => zz_J zp_P zt_tf zt_fd X (d + 1) zm_148 22 [(0, .ref 49), (2, .long x2), (4, .int x4), (5, .int y0)] (v.toList ++ []) h' Q))) : zz_J zp_P zt_tf zt_fd X (d + 1) zm_148 15 [(0, .ref 49), (2, .long x2), (4, .int x4)] [.int y0] h Q := by
  refine zz_J.n 17 rfl rfl rfl ?_
  refine zz_J.n 19 rfl rfl rfl ?_
  refine zz_J.cl (M' := zm_21) 22 rfl rfl (by decide) rfl rfl ⟨rfl, Nat.le_of_ble_eq_true rfl⟩ rfl ?_
  refine zz_J.mono (k hR) ?_
  intro o h' hE
  cases o with
  | inl v => exact zz_J.weak hE rfl ⟨rfl, rfl, rfl, rfl, trivial⟩
  | inr q => exact hE
theorem cb_148_22 {X : Nat → Option zz_C} {h : zz_H} {t : cS} {s : mS} {d : Nat} {Q : zz_O → zz_H → Prop} {x2 : Int64} {x4 : Int32} {x5 : Int32} {y0 : Int32} (hR : kR h t s) (k1 : y0 = 0 → (∀ {h : zz_H}, kR h t s → zz_J zp_P zt_tf zt_fd X d zm_148 44 [(0, .ref 49), (2, .long x2), (5, .int x5)] [] h Q)) (k2 : ¬ y0 = 0 → (∀ {h : zz_H}, kR h t s → zz_J zp_P zt_tf zt_fd X d zm_148 25 [(0, .ref 49), (2, .long x2), (4, .int x4)] [] h Q)) : zz_J zp_P zt_tf zt_fd X d zm_148 22 [(0, .ref 49), (2, .long x2), (4, .int x4), (5, .int x5)] [.int y0] h Q := by
  refine zz_J.b1 44 25 (A := y0 = 0) rfl rfl (by decide) rfl rfl (fun c => ?_) (fun c => ?_)
  · exact zz_J.weak (k1 c hR) rfl ⟨rfl, rfl, rfl, trivial⟩
  · exact zz_J.weak (k2 c hR) rfl ⟨rfl, rfl, rfl, trivial⟩
theorem cb_148_25 {X : Nat → Option zz_C} {h : zz_H} {t : cS} {s : mS} {d : Nat} {Q : zz_O → zz_H → Prop} {x2 : Int64} {x4 : Int32} (hR : kR h t s) (e0 : ¬ (x4 < 0 ∨ (kB t 50).1 ≤ (Int32.toNatClampNeg x4))) (e1 : ¬ (x4 < 0 ∨ (kA t 51).1 ≤ (Int32.toNatClampNeg x4))) (k : ∀ {h : zz_H}, kR h (jA (jB t 50 (vp_updL (kB t 50).2 (Int32.toNatClampNeg x4) x2)) 51 (upd (kA t 51).2 (Int32.toNatClampNeg x4) (vp_nar (zz_ty 3) 1))) s → zz_J zp_P zt_tf zt_fd X d zm_148 66 [] [] h Q) : zz_J zp_P zt_tf zt_fd X d zm_148 25 [(0, .ref 49), (2, .long x2), (4, .int x4)] [] h Q := by
  refine zz_J.n 26 rfl rfl rfl ?_
  refine zz_J.g 29 rfl (hR.gv (v := .ref (kD t 50)) ko_49 (by decide) rfl) rfl ?_
  refine zz_J.n 31 rfl rfl rfl ?_
  refine zz_J.n 32 rfl rfl rfl ?_
  obtain ⟨h1, eq1, hR⟩ := hR.sl (x := x2) ka_50 rfl e0
  refine zz_J.sl 33 rfl eq1 rfl ?_
  clear eq1
  refine zz_J.n 34 rfl rfl rfl ?_
  refine zz_J.g 37 rfl (hR.gv (v := .ref (kD t 51)) ko_49 (by decide) rfl) rfl ?_
  refine zz_J.n 39 rfl rfl rfl ?_
  refine zz_J.c 40 (.int 1) rfl rfl rfl rfl ?_
  obtain ⟨h1, eq1, hR⟩ := hR.sb (x := (1 : Int32)) ka_51 rfl (by decide) e1
  refine zz_J.sb 41 rfl eq1 rfl ?_
  clear eq1
  refine zz_J.n 66 rfl rfl rfl ?_
  exact zz_J.weak (k hR) rfl trivial
theorem cb_148_44 {X : Nat → Option zz_C} {h : zz_H} {t : cS} {s : mS} {d : Nat} {Q : zz_O → zz_H → Prop} {x2 : Int64} {x5 : Int32} (hR : kR h t s) (k1 : x5 < 0 → (∀ {h : zz_H}, kR h t s → zz_J zp_P zt_tf zt_fd X d zm_148 66 [] [] h Q)) (k2 : ¬ x5 < 0 → (∀ {h : zz_H}, kR h t s → zz_J zp_P zt_tf zt_fd X d zm_148 49 [(0, .ref 49), (2, .long x2), (5, .int x5)] [] h Q)) : zz_J zp_P zt_tf zt_fd X d zm_148 44 [(0, .ref 49), (2, .long x2), (5, .int x5)] [] h Q := by
  refine zz_J.n 46 rfl rfl rfl ?_
  refine zz_J.b1 66 49 (A := x5 < 0) rfl rfl (by decide) rfl rfl (fun c => ?_) (fun c => ?_)
  · exact zz_J.weak (k1 c hR) rfl trivial
  · exact zz_J.weak (k2 c hR) rfl ⟨rfl, rfl, rfl, trivial⟩
theorem cb_148_49 {X : Nat → Option zz_C} {h : zz_H} {t : cS} {s : mS} {d : Nat} {Q : zz_O → zz_H → Prop} {x2 : Int64} {x5 : Int32} (hR : kR h t s) (k1 : (kI t 49 8) ≤ x5 → (∀ {h : zz_H}, kR h t s → zz_J zp_P zt_tf zt_fd X d zm_148 66 [] [] h Q)) (k2 : ¬ (kI t 49 8) ≤ x5 → (∀ {h : zz_H}, kR h t s → zz_J zp_P zt_tf zt_fd X d zm_148 58 [(0, .ref 49), (2, .long x2), (5, .int x5)] [] h Q)) : zz_J zp_P zt_tf zt_fd X d zm_148 49 [(0, .ref 49), (2, .long x2), (5, .int x5)] [] h Q := by
  refine zz_J.n 51 rfl rfl rfl ?_
  refine zz_J.n 52 rfl rfl rfl ?_
  refine zz_J.g 55 rfl (hR.gv (v := .int (kI t 49 8)) ko_49 (by decide) rfl) rfl ?_
  refine zz_J.b2 66 58 (A := (kI t 49 8) ≤ x5) rfl rfl (by decide) rfl rfl (fun c => ?_) (fun c => ?_)
  · exact zz_J.weak (k1 c hR) rfl trivial
  · exact zz_J.weak (k2 c hR) rfl ⟨rfl, rfl, rfl, trivial⟩
theorem cb_148_58 {X : Nat → Option zz_C} {h : zz_H} {t : cS} {s : mS} {d : Nat} {Q : zz_O → zz_H → Prop} {x2 : Int64} {x5 : Int32} (hR : kR h t s) (e0 : ¬ (x5 < 0 ∨ (kB t 52).1 ≤ (Int32.toNatClampNeg x5))) (k : ∀ {h : zz_H}, kR h (jB t 52 (vp_updL (kB t 52).2 (Int32.toNatClampNeg x5) x2)) s → zz_J zp_P zt_tf zt_fd X d zm_148 66 [] [] h Q) : zz_J zp_P zt_tf zt_fd X d zm_148 58 [(0, .ref 49), (2, .long x2), (5, .int x5)] [] h Q := by
  refine zz_J.n 59 rfl rfl rfl ?_
  refine zz_J.g 62 rfl (hR.gv (v := .ref (kD t 52)) ko_49 (by decide) rfl) rfl ?_
  refine zz_J.n 64 rfl rfl rfl ?_
  refine zz_J.n 65 rfl rfl rfl ?_
  obtain ⟨h1, eq1, hR⟩ := hR.sl (x := x2) ka_52 rfl e0
  refine zz_J.sl 66 rfl eq1 rfl ?_
  clear eq1
  exact zz_J.weak (k hR) rfl trivial
theorem cb_148_66 {X : Nat → Option zz_C} {h : zz_H} {t : cS} {s : mS} {d : Nat} {Q : zz_O → zz_H → Prop}  (hR : kR h t s) (k : ∀ {h : zz_H}, kR h t s → Q (.inl none) h) : zz_J zp_P zt_tf zt_fd X d zm_148 66 [] [] h Q := by
  refine zz_J.ret rfl rfl rfl ?_
  exact k hR
def cf_148_66 (N : Nat) (X : Nat → Option zz_C)  (t : cS) : kO := some (t, .inl none)
theorem cr_148_66 {X : Nat → Option zz_C} {s : mS} {N : Nat} {d : Nat} (hd : 3 ≤ d) {Q : zz_O → zz_H → Prop}  {h : zz_H} {t t' : cS} {o : kY} (hR : kR h t s) (hf : cf_148_66 N X  t = some (t', o)) (k : (∀ h', kR h' t' s → kE o Q h')) : zz_J zp_P zt_tf zt_fd X d zm_148 66 [] [] h Q := by
  unfold cf_148_66 at hf
  cases hf
  exact cb_148_66 hR  (fun {h} hR => k h hR)
def cf_148_58 (N : Nat) (X : Nat → Option zz_C) (x2 : Int64) (x5 : Int32) (t : cS) : kO := if ¬ (x5 < 0 ∨ (kB t 52).1 ≤ (Int32.toNatClampNeg x5)) then (cf_148_66 N X  (jB t 52 (vp_updL (kB t 52).2 (Int32.toNatClampNeg x5) x2))) else none
theorem cr_148_58 {X : Nat → Option zz_C} {s : mS} {N : Nat} {d : Nat} (hd : 3 ≤ d) {Q : zz_O → zz_H → Prop} {x2 : Int64} {x5 : Int32} {h : zz_H} {t t' : cS} {o : kY} (hR : kR h t s) (hf : cf_148_58 N X x2 x5 t = some (t', o)) (k : (∀ h', kR h' t' s → kE o Q h')) : zz_J zp_P zt_tf zt_fd X d zm_148 58 [(0, .ref 49), (2, .long x2), (5, .int x5)] [] h Q := by
  unfold cf_148_58 at hf
  obtain ⟨e0, hf⟩ := ko_if hf
  exact cb_148_58 hR e0 (fun hR => cr_148_66 hd hR hf k)
def cf_148_49 (N : Nat) (X : Nat → Option zz_C) (x2 : Int64) (x5 : Int32) (t : cS) : kO := if (kI t 49 8) ≤ x5 then cf_148_66 N X  t else cf_148_58 N X x2 x5 t
theorem cr_148_49 {X : Nat → Option zz_C} {s : mS} {N : Nat} {d : Nat} (hd : 3 ≤ d) {Q : zz_O → zz_H → Prop} {x2 : Int64} {x5 : Int32} {h : zz_H} {t t' : cS} {o : kY} (hR : kR h t s) (hf : cf_148_49 N X x2 x5 t = some (t', o)) (k : (∀ h', kR h' t' s → kE o Q h')) : zz_J zp_P zt_tf zt_fd X d zm_148 49 [(0, .ref 49), (2, .long x2), (5, .int x5)] [] h Q := by
  unfold cf_148_49 at hf
  refine cb_148_49 hR  (fun c {h} hR => ?_) (fun c {h} hR => ?_)
  · rw [if_pos c] at hf
    exact cr_148_66 hd hR hf k
  · rw [if_neg c] at hf
    exact cr_148_58 hd hR hf k
def cf_148_44 (N : Nat) (X : Nat → Option zz_C) (x2 : Int64) (x5 : Int32) (t : cS) : kO := if x5 < 0 then cf_148_66 N X  t else cf_148_49 N X x2 x5 t
theorem cr_148_44 {X : Nat → Option zz_C} {s : mS} {N : Nat} {d : Nat} (hd : 3 ≤ d) {Q : zz_O → zz_H → Prop} {x2 : Int64} {x5 : Int32} {h : zz_H} {t t' : cS} {o : kY} (hR : kR h t s) (hf : cf_148_44 N X x2 x5 t = some (t', o)) (k : (∀ h', kR h' t' s → kE o Q h')) : zz_J zp_P zt_tf zt_fd X d zm_148 44 [(0, .ref 49), (2, .long x2), (5, .int x5)] [] h Q := by
  unfold cf_148_44 at hf
  refine cb_148_44 hR  (fun c {h} hR => ?_) (fun c {h} hR => ?_)
  · rw [if_pos c] at hf
    exact cr_148_66 hd hR hf k
  · rw [if_neg c] at hf
    exact cr_148_49 hd hR hf k
def cf_148_25 (N : Nat) (X : Nat → Option zz_C) (x2 : Int64) (x4 : Int32) (t : cS) : kO := if ¬ (x4 < 0 ∨ (kB t 50).1 ≤ (Int32.toNatClampNeg x4)) then (if ¬ (x4 < 0 ∨ (kA t 51).1 ≤ (Int32.toNatClampNeg x4)) then (cf_148_66 N X  (jA (jB t 50 (vp_updL (kB t 50).2 (Int32.toNatClampNeg x4) x2)) 51 (upd (kA t 51).2 (Int32.toNatClampNeg x4) (vp_nar (zz_ty 3) 1)))) else none) else none
theorem cr_148_25 {X : Nat → Option zz_C} {s : mS} {N : Nat} {d : Nat} (hd : 3 ≤ d) {Q : zz_O → zz_H → Prop} {x2 : Int64} {x4 : Int32} {h : zz_H} {t t' : cS} {o : kY} (hR : kR h t s) (hf : cf_148_25 N X x2 x4 t = some (t', o)) (k : (∀ h', kR h' t' s → kE o Q h')) : zz_J zp_P zt_tf zt_fd X d zm_148 25 [(0, .ref 49), (2, .long x2), (4, .int x4)] [] h Q := by
  unfold cf_148_25 at hf
  obtain ⟨e0, hf⟩ := ko_if hf
  obtain ⟨e1, hf⟩ := ko_if hf
  exact cb_148_25 hR e0 e1 (fun hR => cr_148_66 hd hR hf k)
def cf_148_22 (N : Nat) (X : Nat → Option zz_C) (x2 : Int64) (x4 : Int32) (x5 : Int32) (y0 : Int32) (t : cS) : kO := if y0 = 0 then cf_148_44 N X x2 x5 t else cf_148_25 N X x2 x4 t
theorem cr_148_22 {X : Nat → Option zz_C} {s : mS} {N : Nat} {d : Nat} (hd : 3 ≤ d) {Q : zz_O → zz_H → Prop} {x2 : Int64} {x4 : Int32} {x5 : Int32} {y0 : Int32} {h : zz_H} {t t' : cS} {o : kY} (hR : kR h t s) (hf : cf_148_22 N X x2 x4 x5 y0 t = some (t', o)) (k : (∀ h', kR h' t' s → kE o Q h')) : zz_J zp_P zt_tf zt_fd X d zm_148 22 [(0, .ref 49), (2, .long x2), (4, .int x4), (5, .int x5)] [.int y0] h Q := by
  unfold cf_148_22 at hf
  refine cb_148_22 hR  (fun c {h} hR => ?_) (fun c {h} hR => ?_)
  · rw [if_pos c] at hf
    exact cr_148_44 hd hR hf k
  · rw [if_neg c] at hf
    exact cr_148_25 hd hR hf k
def cf_148_15 (N : Nat) (X : Nat → Option zz_C) (x2 : Int64) (x4 : Int32) (y0 : Int32) (t : cS) : kO := ko_call 1000 (cf_21 N X x4 t) (fun g1 v1 => co_i v1 (fun y => cf_148_22 N X x2 x4 y0 y g1))
theorem cr_148_15 {X : Nat → Option zz_C} {s : mS} {N : Nat} {d : Nat} (hd : 3 ≤ d) {Q : zz_O → zz_H → Prop} {x2 : Int64} {x4 : Int32} {y0 : Int32} {h : zz_H} {t t' : cS} {o : kY} (hR : kR h t s) (hf : cf_148_15 N X x2 x4 y0 t = some (t', o)) (k : (∀ h', kR h' t' s → kE o Q h')) : zz_J zp_P zt_tf zt_fd X d zm_148 15 [(0, .ref 49), (2, .long x2), (4, .int x4)] [.int y0] h Q := by
  unfold cf_148_15 at hf
  obtain ⟨d', rfl⟩ : ∃ d', d = d' + 1 := ⟨d - 1, by omega⟩
  refine cb_148_15 hR  (fun {h} hR => ?_)
  rcases ko_call_ok hf with ⟨g1, v1, er, hf⟩ | ⟨g1, er, hq⟩
  · obtain ⟨y, hv, hf2⟩ := co_i_ok hf
    clear hf
    have hf := hf2
    clear hf2
    subst hv
    refine cr_21 (by omega) hR er (fun h hR => ?_)
    exact cr_148_22 hd hR hf k
  · refine cr_21 (by omega) hR er (fun h hR => ?_)
    exact ko_thrown hq hR k
def cf_148_4 (N : Nat) (X : Nat → Option zz_C) (x1 : Int32) (y0 : Int64) (t : cS) : kO := ko_call 3 (cf_149 N X x1 t) (fun g1 v1 => co_i v1 (fun y => cf_148_15 N X y0 ((-1) - x1) y g1))
theorem cr_148_4 {X : Nat → Option zz_C} {s : mS} {N : Nat} {d : Nat} (hd : 3 ≤ d) {Q : zz_O → zz_H → Prop} {x1 : Int32} {y0 : Int64} {h : zz_H} {t t' : cS} {o : kY} (hR : kR h t s) (hf : cf_148_4 N X x1 y0 t = some (t', o)) (k : (∀ h', kR h' t' s → kE o Q h')) : zz_J zp_P zt_tf zt_fd X d zm_148 4 [(0, .ref 49), (1, .int x1)] [.long y0] h Q := by
  unfold cf_148_4 at hf
  obtain ⟨d', rfl⟩ : ∃ d', d = d' + 1 := ⟨d - 1, by omega⟩
  refine cb_148_4 hR  (fun {h} hR => ?_)
  rcases ko_call_ok hf with ⟨g1, v1, er, hf⟩ | ⟨g1, er, hq⟩
  · obtain ⟨y, hv, hf2⟩ := co_i_ok hf
    clear hf
    have hf := hf2
    clear hf2
    subst hv
    refine cr_149 (by omega) hR er (fun h hR => ?_)
    exact cr_148_15 hd hR hf k
  · refine cr_149 (by omega) hR er (fun h hR => ?_)
    exact ko_thrown hq hR k
def cf_148_0 (N : Nat) (X : Nat → Option zz_C) (x1 : Int32) (t : cS) : kO := ko_call 3 (cf_166 N X  t) (fun g1 v1 => co_l v1 (fun y => cf_148_4 N X x1 y g1))
theorem cr_148_0 {X : Nat → Option zz_C} {s : mS} {N : Nat} {d : Nat} (hd : 3 ≤ d) {Q : zz_O → zz_H → Prop} {x1 : Int32} {h : zz_H} {t t' : cS} {o : kY} (hR : kR h t s) (hf : cf_148_0 N X x1 t = some (t', o)) (k : (∀ h', kR h' t' s → kE o Q h')) : zz_J zp_P zt_tf zt_fd X d zm_148 0 [(0, .ref 49), (1, .int x1)] [] h Q := by
  unfold cf_148_0 at hf
  obtain ⟨d', rfl⟩ : ∃ d', d = d' + 1 := ⟨d - 1, by omega⟩
  refine cb_148_0 hR  (fun {h} hR => ?_)
  rcases ko_call_ok hf with ⟨g1, v1, er, hf⟩ | ⟨g1, er, hq⟩
  · obtain ⟨y, hv, hf2⟩ := co_l_ok hf
    clear hf
    have hf := hf2
    clear hf2
    subst hv
    refine cr_166 (by omega) hR er (fun h hR => ?_)
    exact cr_148_4 hd hR hf k
  · refine cr_166 (by omega) hR er (fun h hR => ?_)
    exact ko_thrown hq hR k
/-- storeVariable -/
def cf_148 (N : Nat) (X : Nat → Option zz_C) (x1 : Int32) (t : cS) : kO := cf_148_0 N X x1 t
theorem cr_148 {X : Nat → Option zz_C} {s : mS} {N : Nat} {d : Nat} (hd : 3 ≤ d) {Q : zz_O → zz_H → Prop} {x1 : Int32} {h : zz_H} {t t' : cS} {o : kY} (hR : kR h t s) (hf : cf_148 N X x1 t = some (t', o)) (k : ∀ h', kR h' t' s → kE o Q h') : zz_J zp_P zt_tf zt_fd X d zm_148 0 [(0, .ref 49), (1, .int x1)] [] h Q := by
  unfold cf_148 at hf
  exact zz_J.weak (cr_148_0 hd hR hf k) rfl ⟨rfl, rfl, trivial⟩
/-! yX12_lowOf (J)I -/
theorem cb_256_0 {X : Nat → Option zz_C} {h : zz_H} {t : cS} {s : mS} {d : Nat} {Q : zz_O → zz_H → Prop} {x0 : Int64} (hR : kR h t s) (k : ∀ {h : zz_H}, kR h t s → Q (.inl (some (.int (Int64.toInt32 x0)))) h) : zz_J zp_P zt_tf zt_fd X d zm_256 0 [(0, .long x0)] [] h Q := by
  refine zz_J.n 1 rfl rfl rfl ?_
  refine zz_J.n 2 rfl rfl rfl ?_
  refine zz_J.ret rfl rfl rfl ?_
  exact k hR
def cf_256_0 (N : Nat) (X : Nat → Option zz_C) (x0 : Int64) (t : cS) : kO := some (t, .inl (some (.int (Int64.toInt32 x0))))
theorem cr_256_0 {X : Nat → Option zz_C} {s : mS} {N : Nat} {d : Nat} (hd : 0 ≤ d) {Q : zz_O → zz_H → Prop} {x0 : Int64} {h : zz_H} {t t' : cS} {o : kY} (hR : kR h t s) (hf : cf_256_0 N X x0 t = some (t', o)) (k : (∀ h', kR h' t' s → kE o Q h')) : zz_J zp_P zt_tf zt_fd X d zm_256 0 [(0, .long x0)] [] h Q := by
  unfold cf_256_0 at hf
  cases hf
  exact cb_256_0 hR  (fun {h} hR => k h hR)
/-- lowOf -/
def cf_256 (N : Nat) (X : Nat → Option zz_C) (x0 : Int64) (t : cS) : kO := cf_256_0 N X x0 t
theorem cr_256 {X : Nat → Option zz_C} {s : mS} {N : Nat} {d : Nat} (hd : 0 ≤ d) {Q : zz_O → zz_H → Prop} {x0 : Int64} {h : zz_H} {t t' : cS} {o : kY} (hR : kR h t s) (hf : cf_256 N X x0 t = some (t', o)) (k : ∀ h', kR h' t' s → kE o Q h') : zz_J zp_P zt_tf zt_fd X d zm_256 0 [(0, .long x0)] [] h Q := by
  unfold cf_256 at hf
  exact zz_J.weak (cr_256_0 hd hR hf k) rfl ⟨rfl, trivial⟩
/-! yX3_jumpIfZero (II)V -/
theorem cb_150_0 {X : Nat → Option zz_C} {h : zz_H} {t : cS} {s : mS} {d : Nat} {Q : zz_O → zz_H → Prop} {x1 : Int32} {x2 : Int32} (hR : kR h t s) (k : ∀ {h : zz_H}, kR h t s → zz_J zp_P zt_tf zt_fd X d zm_166 0 [(0, .ref 49)] [] h (zz_after 3 Q (fun v h' => zz_J zp_P zt_tf zt_fd X (d + 1) zm_150 4 [(0, .ref 49), (1, .int x1), (2, .int x2)] (v.toList ++ []) h' Q))) : zz_J zp_P zt_tf zt_fd X (d + 1) zm_150 0 [(0, .ref 49), (1, .int x1), (2, .int x2)] [] h Q := by
  refine zz_J.n 1 rfl rfl rfl ?_
  refine zz_J.cv 4 (as := []) rfl rfl (hR.clO ko_49 (by decide) (by decide)) (by decide) (Nat.le_of_ble_eq_true rfl) (Nat.le_of_ble_eq_true rfl) rfl (Nat.le_of_ble_eq_true rfl) rfl ?_
  refine zz_J.mono (k hR) ?_
  intro o h' hE
  cases o with
  | inl v => exact zz_J.weak hE rfl ⟨rfl, rfl, rfl, trivial⟩
  | inr q => exact hE
theorem cb_150_4 {X : Nat → Option zz_C} {h : zz_H} {t : cS} {s : mS} {d : Nat} {Q : zz_O → zz_H → Prop} {x1 : Int32} {x2 : Int32} {y0 : Int64} (hR : kR h t s) (k : ∀ {h : zz_H}, kR h t s → zz_J zp_P zt_tf zt_fd X d zm_255 0 [(0, .long y0)] [] h (zz_after 1000 Q (fun v h' => zz_J zp_P zt_tf zt_fd X (d + 1) zm_150 9 [(0, .ref 49), (1, .int x1), (2, .int x2), (3, .long y0)] (v.toList ++ []) h' Q))) : zz_J zp_P zt_tf zt_fd X (d + 1) zm_150 4 [(0, .ref 49), (1, .int x1), (2, .int x2)] [.long y0] h Q := by
  refine zz_J.n 5 rfl rfl rfl ?_
  refine zz_J.n 6 rfl rfl rfl ?_
  refine zz_J.cl (M' := zm_255) 9 rfl rfl (by decide) rfl rfl ⟨rfl, Nat.le_of_ble_eq_true rfl⟩ rfl ?_
  refine zz_J.mono (k hR) ?_
  intro o h' hE
  cases o with
  | inl v => exact zz_J.weak hE rfl ⟨rfl, rfl, rfl, rfl, trivial⟩
  | inr q => exact hE
theorem cb_150_9 {X : Nat → Option zz_C} {h : zz_H} {t : cS} {s : mS} {d : Nat} {Q : zz_O → zz_H → Prop} {x1 : Int32} {x2 : Int32} {x3 : Int64} {y0 : Int32} (hR : kR h t s) (k1 : y0 = 0 → (∀ {h : zz_H}, kR h t s → zz_J zp_P zt_tf zt_fd X d zm_150 22 [(0, .ref 49), (1, .int x1), (3, .long x3)] [] h Q)) (k2 : ¬ y0 = 0 → (∀ {h : zz_H}, kR h t s → zz_J zp_P zt_tf zt_fd X d zm_150 12 [(0, .ref 49), (2, .int x2)] [] h Q)) : zz_J zp_P zt_tf zt_fd X d zm_150 9 [(0, .ref 49), (1, .int x1), (2, .int x2), (3, .long x3)] [.int y0] h Q := by
  refine zz_J.b1 22 12 (A := y0 = 0) rfl rfl (by decide) rfl rfl (fun c => ?_) (fun c => ?_)
  · exact zz_J.weak (k1 c hR) rfl ⟨rfl, rfl, rfl, trivial⟩
  · exact zz_J.weak (k2 c hR) rfl ⟨rfl, rfl, trivial⟩
theorem cb_150_12 {X : Nat → Option zz_C} {h : zz_H} {t : cS} {s : mS} {d : Nat} {Q : zz_O → zz_H → Prop} {x2 : Int32} (hR : kR h t s) (k : ∀ {h : zz_H}, kR h t s → zz_J zp_P zt_tf zt_fd X d zm_156 0 [(0, .ref 49), (1, .int 3), (2, .int x2), (3, .int 0)] [] h (zz_after 3 Q (fun v h' => zz_J zp_P zt_tf zt_fd X (d + 1) zm_150 19 [] (v.toList ++ []) h' Q))) : zz_J zp_P zt_tf zt_fd X (d + 1) zm_150 12 [(0, .ref 49), (2, .int x2)] [] h Q := by
  refine zz_J.n 13 rfl rfl rfl ?_
  refine zz_J.c 14 (.int 3) rfl rfl rfl rfl ?_
  refine zz_J.n 15 rfl rfl rfl ?_
  refine zz_J.c 16 (.int 0) rfl rfl rfl rfl ?_
  refine zz_J.cv 19 (as := []) rfl rfl (hR.clO ko_49 (by decide) (by decide)) (by decide) (Nat.le_of_ble_eq_true rfl) (Nat.le_of_ble_eq_true rfl) rfl (Nat.le_of_ble_eq_true rfl) rfl ?_
  refine zz_J.mono (k hR) ?_
  intro o h' hE
  cases o with
  | inl v => exact zz_J.weak hE rfl trivial
  | inr q => exact hE
theorem cb_150_19 {X : Nat → Option zz_C} {h : zz_H} {t : cS} {s : mS} {d : Nat} {Q : zz_O → zz_H → Prop}  (hR : kR h t s) (k : ∀ {h : zz_H}, kR h t s → zz_J zp_P zt_tf zt_fd X d zm_150 34 [] [] h Q) : zz_J zp_P zt_tf zt_fd X d zm_150 19 [] [] h Q := by
  refine zz_J.n 34 rfl rfl rfl ?_
  exact zz_J.weak (k hR) rfl trivial
theorem cb_150_22 {X : Nat → Option zz_C} {h : zz_H} {t : cS} {s : mS} {d : Nat} {Q : zz_O → zz_H → Prop} {x1 : Int32} {x3 : Int64} (hR : kR h t s) (k : ∀ {h : zz_H}, kR h t s → zz_J zp_P zt_tf zt_fd X d zm_256 0 [(0, .long x3)] [] h (zz_after 1000 Q (fun v h' => zz_J zp_P zt_tf zt_fd X (d + 1) zm_150 26 [(0, .ref 49), (1, .int x1)] (v.toList ++ []) h' Q))) : zz_J zp_P zt_tf zt_fd X (d + 1) zm_150 22 [(0, .ref 49), (1, .int x1), (3, .long x3)] [] h Q := by
  refine zz_J.n 23 rfl rfl rfl ?_
  refine zz_J.cl (M' := zm_256) 26 rfl rfl (by decide) rfl rfl ⟨rfl, Nat.le_of_ble_eq_true rfl⟩ rfl ?_
  refine zz_J.mono (k hR) ?_
  intro o h' hE
  cases o with
  | inl v => exact zz_J.weak hE rfl ⟨rfl, rfl, trivial⟩
  | inr q => exact hE
theorem cb_150_26 {X : Nat → Option zz_C} {h : zz_H} {t : cS} {s : mS} {d : Nat} {Q : zz_O → zz_H → Prop} {x1 : Int32} {y0 : Int32} (hR : kR h t s) (k1 : ¬ y0 = 0 → (∀ {h : zz_H}, kR h t s → zz_J zp_P zt_tf zt_fd X d zm_150 34 [] [] h Q)) (k2 : ¬ ¬ y0 = 0 → (∀ {h : zz_H}, kR h t s → zz_J zp_P zt_tf zt_fd X d zm_150 29 [(0, .ref 49), (1, .int x1)] [] h Q)) : zz_J zp_P zt_tf zt_fd X d zm_150 26 [(0, .ref 49), (1, .int x1)] [.int y0] h Q := by
  refine zz_J.b1 34 29 (A := ¬ y0 = 0) rfl (zz_cond_ne _ _) (by decide) rfl rfl (fun c => ?_) (fun c => ?_)
  · exact zz_J.weak (k1 c hR) rfl trivial
  · exact zz_J.weak (k2 c hR) rfl ⟨rfl, rfl, trivial⟩
theorem cb_150_29 {X : Nat → Option zz_C} {h : zz_H} {t : cS} {s : mS} {d : Nat} {Q : zz_O → zz_H → Prop} {x1 : Int32} (hR : kR h t s) (k : ∀ {h : zz_H}, kR h (jI t 49 17 x1) s → zz_J zp_P zt_tf zt_fd X d zm_150 34 [] [] h Q) : zz_J zp_P zt_tf zt_fd X d zm_150 29 [(0, .ref 49), (1, .int x1)] [] h Q := by
  refine zz_J.n 30 rfl rfl rfl ?_
  refine zz_J.n 31 rfl rfl rfl ?_
  obtain ⟨h1, eq1, hR⟩ := hR.pI (x := x1) (by decide) ko_49 (kpi_49_17 _) (Nat.le_of_ble_eq_true rfl) rfl
  refine zz_J.pv 34 rfl eq1 rfl ?_
  clear eq1
  exact zz_J.weak (k hR) rfl trivial
theorem cb_150_34 {X : Nat → Option zz_C} {h : zz_H} {t : cS} {s : mS} {d : Nat} {Q : zz_O → zz_H → Prop}  (hR : kR h t s) (k : ∀ {h : zz_H}, kR h t s → Q (.inl none) h) : zz_J zp_P zt_tf zt_fd X d zm_150 34 [] [] h Q := by
  refine zz_J.ret rfl rfl rfl ?_
  exact k hR
def cf_150_34 (N : Nat) (X : Nat → Option zz_C)  (t : cS) : kO := some (t, .inl none)
theorem cr_150_34 {X : Nat → Option zz_C} {s : mS} {N : Nat} {d : Nat} (hd : 3 ≤ d) {Q : zz_O → zz_H → Prop}  {h : zz_H} {t t' : cS} {o : kY} (hR : kR h t s) (hf : cf_150_34 N X  t = some (t', o)) (k : (∀ h', kR h' t' s → kE o Q h')) : zz_J zp_P zt_tf zt_fd X d zm_150 34 [] [] h Q := by
  unfold cf_150_34 at hf
  cases hf
  exact cb_150_34 hR  (fun {h} hR => k h hR)
def cf_150_29 (N : Nat) (X : Nat → Option zz_C) (x1 : Int32) (t : cS) : kO := cf_150_34 N X  (jI t 49 17 x1)
theorem cr_150_29 {X : Nat → Option zz_C} {s : mS} {N : Nat} {d : Nat} (hd : 3 ≤ d) {Q : zz_O → zz_H → Prop} {x1 : Int32} {h : zz_H} {t t' : cS} {o : kY} (hR : kR h t s) (hf : cf_150_29 N X x1 t = some (t', o)) (k : (∀ h', kR h' t' s → kE o Q h')) : zz_J zp_P zt_tf zt_fd X d zm_150 29 [(0, .ref 49), (1, .int x1)] [] h Q := by
  unfold cf_150_29 at hf
  exact cb_150_29 hR  (fun hR => cr_150_34 hd hR hf k)
def cf_150_26 (N : Nat) (X : Nat → Option zz_C) (x1 : Int32) (y0 : Int32) (t : cS) : kO := if ¬ y0 = 0 then cf_150_34 N X  t else cf_150_29 N X x1 t
theorem cr_150_26 {X : Nat → Option zz_C} {s : mS} {N : Nat} {d : Nat} (hd : 3 ≤ d) {Q : zz_O → zz_H → Prop} {x1 : Int32} {y0 : Int32} {h : zz_H} {t t' : cS} {o : kY} (hR : kR h t s) (hf : cf_150_26 N X x1 y0 t = some (t', o)) (k : (∀ h', kR h' t' s → kE o Q h')) : zz_J zp_P zt_tf zt_fd X d zm_150 26 [(0, .ref 49), (1, .int x1)] [.int y0] h Q := by
  unfold cf_150_26 at hf
  refine cb_150_26 hR  (fun c {h} hR => ?_) (fun c {h} hR => ?_)
  · rw [if_pos c] at hf
    exact cr_150_34 hd hR hf k
  · rw [if_neg c] at hf
    exact cr_150_29 hd hR hf k
def cf_150_22 (N : Nat) (X : Nat → Option zz_C) (x1 : Int32) (x3 : Int64) (t : cS) : kO := ko_call 1000 (cf_256 N X x3 t) (fun g1 v1 => co_i v1 (fun y => cf_150_26 N X x1 y g1))
theorem cr_150_22 {X : Nat → Option zz_C} {s : mS} {N : Nat} {d : Nat} (hd : 3 ≤ d) {Q : zz_O → zz_H → Prop} {x1 : Int32} {x3 : Int64} {h : zz_H} {t t' : cS} {o : kY} (hR : kR h t s) (hf : cf_150_22 N X x1 x3 t = some (t', o)) (k : (∀ h', kR h' t' s → kE o Q h')) : zz_J zp_P zt_tf zt_fd X d zm_150 22 [(0, .ref 49), (1, .int x1), (3, .long x3)] [] h Q := by
  unfold cf_150_22 at hf
  obtain ⟨d', rfl⟩ : ∃ d', d = d' + 1 := ⟨d - 1, by omega⟩
  refine cb_150_22 hR  (fun {h} hR => ?_)
  rcases ko_call_ok hf with ⟨g1, v1, er, hf⟩ | ⟨g1, er, hq⟩
  · obtain ⟨y, hv, hf2⟩ := co_i_ok hf
    clear hf
    have hf := hf2
    clear hf2
    subst hv
    refine cr_256 (by omega) hR er (fun h hR => ?_)
    exact cr_150_26 hd hR hf k
  · refine cr_256 (by omega) hR er (fun h hR => ?_)
    exact ko_thrown hq hR k
def cf_150_19 (N : Nat) (X : Nat → Option zz_C)  (t : cS) : kO := cf_150_34 N X  t
theorem cr_150_19 {X : Nat → Option zz_C} {s : mS} {N : Nat} {d : Nat} (hd : 3 ≤ d) {Q : zz_O → zz_H → Prop}  {h : zz_H} {t t' : cS} {o : kY} (hR : kR h t s) (hf : cf_150_19 N X  t = some (t', o)) (k : (∀ h', kR h' t' s → kE o Q h')) : zz_J zp_P zt_tf zt_fd X d zm_150 19 [] [] h Q := by
  unfold cf_150_19 at hf
  exact cb_150_19 hR  (fun hR => cr_150_34 hd hR hf k)
def cf_150_12 (N : Nat) (X : Nat → Option zz_C) (x2 : Int32) (t : cS) : kO := ko_call 3 (cf_156 N X 3 x2 0 t) (fun g1 v1 => co_v v1 (cf_150_19 N X  g1))
theorem cr_150_12 {X : Nat → Option zz_C} {s : mS} {N : Nat} {d : Nat} (hd : 3 ≤ d) {Q : zz_O → zz_H → Prop} {x2 : Int32} {h : zz_H} {t t' : cS} {o : kY} (hR : kR h t s) (hf : cf_150_12 N X x2 t = some (t', o)) (k : (∀ h', kR h' t' s → kE o Q h')) : zz_J zp_P zt_tf zt_fd X d zm_150 12 [(0, .ref 49), (2, .int x2)] [] h Q := by
  unfold cf_150_12 at hf
  obtain ⟨d', rfl⟩ : ∃ d', d = d' + 1 := ⟨d - 1, by omega⟩
  refine cb_150_12 hR  (fun {h} hR => ?_)
  rcases ko_call_ok hf with ⟨g1, v1, er, hf⟩ | ⟨g1, er, hq⟩
  · obtain ⟨hv, hf2⟩ := co_v_ok hf
    clear hf
    have hf := hf2
    clear hf2
    subst hv
    refine cr_156 (by omega) hR er (fun h hR => ?_)
    exact cr_150_19 hd hR hf k
  · refine cr_156 (by omega) hR er (fun h hR => ?_)
    exact ko_thrown hq hR k
def cf_150_9 (N : Nat) (X : Nat → Option zz_C) (x1 : Int32) (x2 : Int32) (x3 : Int64) (y0 : Int32) (t : cS) : kO := if y0 = 0 then cf_150_22 N X x1 x3 t else cf_150_12 N X x2 t
theorem cr_150_9 {X : Nat → Option zz_C} {s : mS} {N : Nat} {d : Nat} (hd : 3 ≤ d) {Q : zz_O → zz_H → Prop} {x1 : Int32} {x2 : Int32} {x3 : Int64} {y0 : Int32} {h : zz_H} {t t' : cS} {o : kY} (hR : kR h t s) (hf : cf_150_9 N X x1 x2 x3 y0 t = some (t', o)) (k : (∀ h', kR h' t' s → kE o Q h')) : zz_J zp_P zt_tf zt_fd X d zm_150 9 [(0, .ref 49), (1, .int x1), (2, .int x2), (3, .long x3)] [.int y0] h Q := by
  unfold cf_150_9 at hf
  refine cb_150_9 hR  (fun c {h} hR => ?_) (fun c {h} hR => ?_)
  · rw [if_pos c] at hf
    exact cr_150_22 hd hR hf k
  · rw [if_neg c] at hf
    exact cr_150_12 hd hR hf k
def cf_150_4 (N : Nat) (X : Nat → Option zz_C) (x1 : Int32) (x2 : Int32) (y0 : Int64) (t : cS) : kO := ko_call 1000 (cf_255 N X y0 t) (fun g1 v1 => co_i v1 (fun y => cf_150_9 N X x1 x2 y0 y g1))
theorem cr_150_4 {X : Nat → Option zz_C} {s : mS} {N : Nat} {d : Nat} (hd : 3 ≤ d) {Q : zz_O → zz_H → Prop} {x1 : Int32} {x2 : Int32} {y0 : Int64} {h : zz_H} {t t' : cS} {o : kY} (hR : kR h t s) (hf : cf_150_4 N X x1 x2 y0 t = some (t', o)) (k : (∀ h', kR h' t' s → kE o Q h')) : zz_J zp_P zt_tf zt_fd X d zm_150 4 [(0, .ref 49), (1, .int x1), (2, .int x2)] [.long y0] h Q := by
  unfold cf_150_4 at hf
  obtain ⟨d', rfl⟩ : ∃ d', d = d' + 1 := ⟨d - 1, by omega⟩
  refine cb_150_4 hR  (fun {h} hR => ?_)
  rcases ko_call_ok hf with ⟨g1, v1, er, hf⟩ | ⟨g1, er, hq⟩
  · obtain ⟨y, hv, hf2⟩ := co_i_ok hf
    clear hf
    have hf := hf2
    clear hf2
    subst hv
    refine cr_255 (by omega) hR er (fun h hR => ?_)
    exact cr_150_9 hd hR hf k
  · refine cr_255 (by omega) hR er (fun h hR => ?_)
    exact ko_thrown hq hR k
def cf_150_0 (N : Nat) (X : Nat → Option zz_C) (x1 : Int32) (x2 : Int32) (t : cS) : kO := ko_call 3 (cf_166 N X  t) (fun g1 v1 => co_l v1 (fun y => cf_150_4 N X x1 x2 y g1))
theorem cr_150_0 {X : Nat → Option zz_C} {s : mS} {N : Nat} {d : Nat} (hd : 3 ≤ d) {Q : zz_O → zz_H → Prop} {x1 : Int32} {x2 : Int32} {h : zz_H} {t t' : cS} {o : kY} (hR : kR h t s) (hf : cf_150_0 N X x1 x2 t = some (t', o)) (k : (∀ h', kR h' t' s → kE o Q h')) : zz_J zp_P zt_tf zt_fd X d zm_150 0 [(0, .ref 49), (1, .int x1), (2, .int x2)] [] h Q := by
  unfold cf_150_0 at hf
  obtain ⟨d', rfl⟩ : ∃ d', d = d' + 1 := ⟨d - 1, by omega⟩
  refine cb_150_0 hR  (fun {h} hR => ?_)
  rcases ko_call_ok hf with ⟨g1, v1, er, hf⟩ | ⟨g1, er, hq⟩
  · obtain ⟨y, hv, hf2⟩ := co_l_ok hf
    clear hf
    have hf := hf2
    clear hf2
    subst hv
    refine cr_166 (by omega) hR er (fun h hR => ?_)
    exact cr_150_4 hd hR hf k
  · refine cr_166 (by omega) hR er (fun h hR => ?_)
    exact ko_thrown hq hR k
/-- jumpIfZero -/
def cf_150 (N : Nat) (X : Nat → Option zz_C) (x1 : Int32) (x2 : Int32) (t : cS) : kO := cf_150_0 N X x1 x2 t
theorem cr_150 {X : Nat → Option zz_C} {s : mS} {N : Nat} {d : Nat} (hd : 3 ≤ d) {Q : zz_O → zz_H → Prop} {x1 : Int32} {x2 : Int32} {h : zz_H} {t t' : cS} {o : kY} (hR : kR h t s) (hf : cf_150 N X x1 x2 t = some (t', o)) (k : ∀ h', kR h' t' s → kE o Q h') : zz_J zp_P zt_tf zt_fd X d zm_150 0 [(0, .ref 49), (1, .int x1), (2, .int x2)] [] h Q := by
  unfold cf_150 at hf
  exact zz_J.weak (cr_150_0 hd hR hf k) rfl ⟨rfl, rfl, rfl, trivial⟩
/-! yX3_beginFor (I)V -/
theorem cb_151_0 {X : Nat → Option zz_C} {h : zz_H} {t : cS} {s : mS} {d : Nat} {Q : zz_O → zz_H → Prop} {x1 : Int32} (hR : kR h t s) (k : ∀ {h : zz_H}, kR h t s → zz_J zp_P zt_tf zt_fd X d zm_167 0 [(0, .ref 49), (1, .int 1)] [] h (zz_after 3 Q (fun v h' => zz_J zp_P zt_tf zt_fd X (d + 1) zm_151 5 [(0, .ref 49), (1, .int x1)] (v.toList ++ []) h' Q))) : zz_J zp_P zt_tf zt_fd X (d + 1) zm_151 0 [(0, .ref 49), (1, .int x1)] [] h Q := by
  refine zz_J.n 1 rfl rfl rfl ?_
  refine zz_J.c 2 (.int 1) rfl rfl rfl rfl ?_
  refine zz_J.cv 5 (as := []) rfl rfl (hR.clO ko_49 (by decide) (by decide)) (by decide) (Nat.le_of_ble_eq_true rfl) (Nat.le_of_ble_eq_true rfl) rfl (Nat.le_of_ble_eq_true rfl) rfl ?_
  refine zz_J.mono (k hR) ?_
  intro o h' hE
  cases o with
  | inl v => exact zz_J.weak hE rfl ⟨rfl, rfl, trivial⟩
  | inr q => exact hE
theorem cb_151_5 {X : Nat → Option zz_C} {h : zz_H} {t : cS} {s : mS} {d : Nat} {Q : zz_O → zz_H → Prop} {x1 : Int32} {y0 : Int64} (hR : kR h t s) (k : ∀ {h : zz_H}, kR h t s → zz_J zp_P zt_tf zt_fd X d zm_255 0 [(0, .long y0)] [] h (zz_after 1000 Q (fun v h' => zz_J zp_P zt_tf zt_fd X (d + 1) zm_151 10 [(0, .ref 49), (1, .int x1), (2, .long y0)] (v.toList ++ []) h' Q))) : zz_J zp_P zt_tf zt_fd X (d + 1) zm_151 5 [(0, .ref 49), (1, .int x1)] [.long y0] h Q := by
  refine zz_J.n 6 rfl rfl rfl ?_
  refine zz_J.n 7 rfl rfl rfl ?_
  refine zz_J.cl (M' := zm_255) 10 rfl rfl (by decide) rfl rfl ⟨rfl, Nat.le_of_ble_eq_true rfl⟩ rfl ?_
  refine zz_J.mono (k hR) ?_
  intro o h' hE
  cases o with
  | inl v => exact zz_J.weak hE rfl ⟨rfl, rfl, rfl, trivial⟩
  | inr q => exact hE
theorem cb_151_10 {X : Nat → Option zz_C} {h : zz_H} {t : cS} {s : mS} {d : Nat} {Q : zz_O → zz_H → Prop} {x1 : Int32} {x2 : Int64} {y0 : Int32} (hR : kR h t s) (k1 : ¬ y0 = 0 → (∀ {h : zz_H}, kR h t s → zz_J zp_P zt_tf zt_fd X d zm_151 30 [(0, .ref 49)] [] h Q)) (k2 : ¬ ¬ y0 = 0 → (∀ {h : zz_H}, kR h t s → zz_J zp_P zt_tf zt_fd X d zm_151 13 [(0, .ref 49), (1, .int x1), (2, .long x2)] [] h Q)) : zz_J zp_P zt_tf zt_fd X d zm_151 10 [(0, .ref 49), (1, .int x1), (2, .long x2)] [.int y0] h Q := by
  refine zz_J.b1 30 13 (A := ¬ y0 = 0) rfl (zz_cond_ne _ _) (by decide) rfl rfl (fun c => ?_) (fun c => ?_)
  · exact zz_J.weak (k1 c hR) rfl ⟨rfl, trivial⟩
  · exact zz_J.weak (k2 c hR) rfl ⟨rfl, rfl, rfl, trivial⟩
theorem cb_151_13 {X : Nat → Option zz_C} {h : zz_H} {t : cS} {s : mS} {d : Nat} {Q : zz_O → zz_H → Prop} {x1 : Int32} {x2 : Int64} (hR : kR h t s) (k : ∀ {h : zz_H}, kR h t s → zz_J zp_P zt_tf zt_fd X d zm_256 0 [(0, .long x2)] [] h (zz_after 1000 Q (fun v h' => zz_J zp_P zt_tf zt_fd X (d + 1) zm_151 17 [(0, .ref 49), (1, .int x1)] (v.toList ++ []) h' Q))) : zz_J zp_P zt_tf zt_fd X (d + 1) zm_151 13 [(0, .ref 49), (1, .int x1), (2, .long x2)] [] h Q := by
  refine zz_J.n 14 rfl rfl rfl ?_
  refine zz_J.cl (M' := zm_256) 17 rfl rfl (by decide) rfl rfl ⟨rfl, Nat.le_of_ble_eq_true rfl⟩ rfl ?_
  refine zz_J.mono (k hR) ?_
  intro o h' hE
  cases o with
  | inl v => exact zz_J.weak hE rfl ⟨rfl, rfl, trivial⟩
  | inr q => exact hE
theorem cb_151_17 {X : Nat → Option zz_C} {h : zz_H} {t : cS} {s : mS} {d : Nat} {Q : zz_O → zz_H → Prop} {x1 : Int32} {y0 : Int32} (hR : kR h t s) (k1 : 0 ≤ y0 → (∀ {h : zz_H}, kR h t s → zz_J zp_P zt_tf zt_fd X d zm_151 30 [(0, .ref 49)] [] h Q)) (k2 : ¬ 0 ≤ y0 → (∀ {h : zz_H}, kR h t s → zz_J zp_P zt_tf zt_fd X d zm_151 20 [(0, .ref 49), (1, .int x1)] [] h Q)) : zz_J zp_P zt_tf zt_fd X d zm_151 17 [(0, .ref 49), (1, .int x1)] [.int y0] h Q := by
  refine zz_J.b1 30 20 (A := 0 ≤ y0) rfl rfl (by decide) rfl rfl (fun c => ?_) (fun c => ?_)
  · exact zz_J.weak (k1 c hR) rfl ⟨rfl, trivial⟩
  · exact zz_J.weak (k2 c hR) rfl ⟨rfl, rfl, trivial⟩
theorem cb_151_20 {X : Nat → Option zz_C} {h : zz_H} {t : cS} {s : mS} {d : Nat} {Q : zz_O → zz_H → Prop} {x1 : Int32} (hR : kR h t s) (k : ∀ {h : zz_H}, kR h t s → zz_J zp_P zt_tf zt_fd X d zm_156 0 [(0, .ref 49), (1, .int 1), (2, .int x1), (3, .int 0)] [] h (zz_after 3 Q (fun v h' => zz_J zp_P zt_tf zt_fd X (d + 1) zm_151 27 [] (v.toList ++ []) h' Q))) : zz_J zp_P zt_tf zt_fd X (d + 1) zm_151 20 [(0, .ref 49), (1, .int x1)] [] h Q := by
  refine zz_J.n 21 rfl rfl rfl ?_
  refine zz_J.c 22 (.int 1) rfl rfl rfl rfl ?_
  refine zz_J.n 23 rfl rfl rfl ?_
  refine zz_J.c 24 (.int 0) rfl rfl rfl rfl ?_
  refine zz_J.cv 27 (as := []) rfl rfl (hR.clO ko_49 (by decide) (by decide)) (by decide) (Nat.le_of_ble_eq_true rfl) (Nat.le_of_ble_eq_true rfl) rfl (Nat.le_of_ble_eq_true rfl) rfl ?_
  refine zz_J.mono (k hR) ?_
  intro o h' hE
  cases o with
  | inl v => exact zz_J.weak hE rfl trivial
  | inr q => exact hE
theorem cb_151_27 {X : Nat → Option zz_C} {h : zz_H} {t : cS} {s : mS} {d : Nat} {Q : zz_O → zz_H → Prop}  (hR : kR h t s) (k : ∀ {h : zz_H}, kR h t s → zz_J zp_P zt_tf zt_fd X d zm_151 39 [] [] h Q) : zz_J zp_P zt_tf zt_fd X d zm_151 27 [] [] h Q := by
  refine zz_J.n 39 rfl rfl rfl ?_
  exact zz_J.weak (k hR) rfl trivial
theorem cb_151_30 {X : Nat → Option zz_C} {h : zz_H} {t : cS} {s : mS} {d : Nat} {Q : zz_O → zz_H → Prop}  (hR : kR h t s) (k : ∀ {h : zz_H}, kR h t s → zz_J zp_P zt_tf zt_fd X d zm_253 0 [(0, .int 0), (1, .int 0)] [] h (zz_after 1000 Q (fun v h' => zz_J zp_P zt_tf zt_fd X (d + 1) zm_151 36 [] (v.toList ++ [.ref 49]) h' Q))) : zz_J zp_P zt_tf zt_fd X (d + 1) zm_151 30 [(0, .ref 49)] [] h Q := by
  refine zz_J.n 31 rfl rfl rfl ?_
  refine zz_J.c 32 (.int 0) rfl rfl rfl rfl ?_
  refine zz_J.c 33 (.int 0) rfl rfl rfl rfl ?_
  refine zz_J.cl (M' := zm_253) 36 rfl rfl (by decide) rfl rfl ⟨rfl, Nat.le_of_ble_eq_true rfl⟩ rfl ?_
  refine zz_J.mono (k hR) ?_
  intro o h' hE
  cases o with
  | inl v => exact zz_J.weak hE rfl trivial
  | inr q => exact hE
theorem cb_151_36 {X : Nat → Option zz_C} {h : zz_H} {t : cS} {s : mS} {d : Nat} {Q : zz_O → zz_H → Prop} {y1 : Int64} (hR : kR h t s) (k : ∀ {h : zz_H}, kR h t s → zz_J zp_P zt_tf zt_fd X d zm_165 0 [(0, .ref 49), (1, .long y1)] [] h (zz_after 3 Q (fun v h' => zz_J zp_P zt_tf zt_fd X (d + 1) zm_151 39 [] (v.toList ++ []) h' Q))) : zz_J zp_P zt_tf zt_fd X (d + 1) zm_151 36 [] [.long y1, .ref 49] h Q := by
  refine zz_J.cv 39 (as := []) rfl rfl (hR.clO ko_49 (by decide) (by decide)) (by decide) (Nat.le_of_ble_eq_true rfl) (Nat.le_of_ble_eq_true rfl) rfl (Nat.le_of_ble_eq_true rfl) rfl ?_
  refine zz_J.mono (k hR) ?_
  intro o h' hE
  cases o with
  | inl v => exact zz_J.weak hE rfl trivial
  | inr q => exact hE
theorem cb_151_39 {X : Nat → Option zz_C} {h : zz_H} {t : cS} {s : mS} {d : Nat} {Q : zz_O → zz_H → Prop}  (hR : kR h t s) (k : ∀ {h : zz_H}, kR h t s → Q (.inl none) h) : zz_J zp_P zt_tf zt_fd X d zm_151 39 [] [] h Q := by
  refine zz_J.ret rfl rfl rfl ?_
  exact k hR
def cf_151_39 (N : Nat) (X : Nat → Option zz_C)  (t : cS) : kO := some (t, .inl none)
theorem cr_151_39 {X : Nat → Option zz_C} {s : mS} {N : Nat} {d : Nat} (hd : 10 ≤ d) {Q : zz_O → zz_H → Prop}  {h : zz_H} {t t' : cS} {o : kY} (hR : kR h t s) (hf : cf_151_39 N X  t = some (t', o)) (k : (∀ h', kR h' t' s → kE o Q h')) : zz_J zp_P zt_tf zt_fd X d zm_151 39 [] [] h Q := by
  unfold cf_151_39 at hf
  cases hf
  exact cb_151_39 hR  (fun {h} hR => k h hR)
def cf_151_36 (N : Nat) (X : Nat → Option zz_C) (y1 : Int64) (t : cS) : kO := ko_call 3 (cf_165 N X y1 t) (fun g1 v1 => co_v v1 (cf_151_39 N X  g1))
theorem cr_151_36 {X : Nat → Option zz_C} {s : mS} {N : Nat} {d : Nat} (hd : 10 ≤ d) {Q : zz_O → zz_H → Prop} {y1 : Int64} {h : zz_H} {t t' : cS} {o : kY} (hR : kR h t s) (hf : cf_151_36 N X y1 t = some (t', o)) (k : (∀ h', kR h' t' s → kE o Q h')) : zz_J zp_P zt_tf zt_fd X d zm_151 36 [] [.long y1, .ref 49] h Q := by
  unfold cf_151_36 at hf
  obtain ⟨d', rfl⟩ : ∃ d', d = d' + 1 := ⟨d - 1, by omega⟩
  refine cb_151_36 hR  (fun {h} hR => ?_)
  rcases ko_call_ok hf with ⟨g1, v1, er, hf⟩ | ⟨g1, er, hq⟩
  · obtain ⟨hv, hf2⟩ := co_v_ok hf
    clear hf
    have hf := hf2
    clear hf2
    subst hv
    refine cr_165 (by omega) hR er (fun h hR => ?_)
    exact cr_151_39 hd hR hf k
  · refine cr_165 (by omega) hR er (fun h hR => ?_)
    exact ko_thrown hq hR k
def cf_151_30 (N : Nat) (X : Nat → Option zz_C)  (t : cS) : kO := ko_call 1000 (cf_253 N X 0 0 t) (fun g1 v1 => co_l v1 (fun y => cf_151_36 N X y g1))
theorem cr_151_30 {X : Nat → Option zz_C} {s : mS} {N : Nat} {d : Nat} (hd : 10 ≤ d) {Q : zz_O → zz_H → Prop}  {h : zz_H} {t t' : cS} {o : kY} (hR : kR h t s) (hf : cf_151_30 N X  t = some (t', o)) (k : (∀ h', kR h' t' s → kE o Q h')) : zz_J zp_P zt_tf zt_fd X d zm_151 30 [(0, .ref 49)] [] h Q := by
  unfold cf_151_30 at hf
  obtain ⟨d', rfl⟩ : ∃ d', d = d' + 1 := ⟨d - 1, by omega⟩
  refine cb_151_30 hR  (fun {h} hR => ?_)
  rcases ko_call_ok hf with ⟨g1, v1, er, hf⟩ | ⟨g1, er, hq⟩
  · obtain ⟨y, hv, hf2⟩ := co_l_ok hf
    clear hf
    have hf := hf2
    clear hf2
    subst hv
    refine cr_253 (by omega) hR er (fun h hR => ?_)
    exact cr_151_36 hd hR hf k
  · refine cr_253 (by omega) hR er (fun h hR => ?_)
    exact ko_thrown hq hR k
def cf_151_27 (N : Nat) (X : Nat → Option zz_C)  (t : cS) : kO := cf_151_39 N X  t
theorem cr_151_27 {X : Nat → Option zz_C} {s : mS} {N : Nat} {d : Nat} (hd : 10 ≤ d) {Q : zz_O → zz_H → Prop}  {h : zz_H} {t t' : cS} {o : kY} (hR : kR h t s) (hf : cf_151_27 N X  t = some (t', o)) (k : (∀ h', kR h' t' s → kE o Q h')) : zz_J zp_P zt_tf zt_fd X d zm_151 27 [] [] h Q := by
  unfold cf_151_27 at hf
  exact cb_151_27 hR  (fun hR => cr_151_39 hd hR hf k)
def cf_151_20 (N : Nat) (X : Nat → Option zz_C) (x1 : Int32) (t : cS) : kO := ko_call 3 (cf_156 N X 1 x1 0 t) (fun g1 v1 => co_v v1 (cf_151_27 N X  g1))
theorem cr_151_20 {X : Nat → Option zz_C} {s : mS} {N : Nat} {d : Nat} (hd : 10 ≤ d) {Q : zz_O → zz_H → Prop} {x1 : Int32} {h : zz_H} {t t' : cS} {o : kY} (hR : kR h t s) (hf : cf_151_20 N X x1 t = some (t', o)) (k : (∀ h', kR h' t' s → kE o Q h')) : zz_J zp_P zt_tf zt_fd X d zm_151 20 [(0, .ref 49), (1, .int x1)] [] h Q := by
  unfold cf_151_20 at hf
  obtain ⟨d', rfl⟩ : ∃ d', d = d' + 1 := ⟨d - 1, by omega⟩
  refine cb_151_20 hR  (fun {h} hR => ?_)
  rcases ko_call_ok hf with ⟨g1, v1, er, hf⟩ | ⟨g1, er, hq⟩
  · obtain ⟨hv, hf2⟩ := co_v_ok hf
    clear hf
    have hf := hf2
    clear hf2
    subst hv
    refine cr_156 (by omega) hR er (fun h hR => ?_)
    exact cr_151_27 hd hR hf k
  · refine cr_156 (by omega) hR er (fun h hR => ?_)
    exact ko_thrown hq hR k
def cf_151_17 (N : Nat) (X : Nat → Option zz_C) (x1 : Int32) (y0 : Int32) (t : cS) : kO := if 0 ≤ y0 then cf_151_30 N X  t else cf_151_20 N X x1 t
theorem cr_151_17 {X : Nat → Option zz_C} {s : mS} {N : Nat} {d : Nat} (hd : 10 ≤ d) {Q : zz_O → zz_H → Prop} {x1 : Int32} {y0 : Int32} {h : zz_H} {t t' : cS} {o : kY} (hR : kR h t s) (hf : cf_151_17 N X x1 y0 t = some (t', o)) (k : (∀ h', kR h' t' s → kE o Q h')) : zz_J zp_P zt_tf zt_fd X d zm_151 17 [(0, .ref 49), (1, .int x1)] [.int y0] h Q := by
  unfold cf_151_17 at hf
  refine cb_151_17 hR  (fun c {h} hR => ?_) (fun c {h} hR => ?_)
  · rw [if_pos c] at hf
    exact cr_151_30 hd hR hf k
  · rw [if_neg c] at hf
    exact cr_151_20 hd hR hf k
def cf_151_13 (N : Nat) (X : Nat → Option zz_C) (x1 : Int32) (x2 : Int64) (t : cS) : kO := ko_call 1000 (cf_256 N X x2 t) (fun g1 v1 => co_i v1 (fun y => cf_151_17 N X x1 y g1))
theorem cr_151_13 {X : Nat → Option zz_C} {s : mS} {N : Nat} {d : Nat} (hd : 10 ≤ d) {Q : zz_O → zz_H → Prop} {x1 : Int32} {x2 : Int64} {h : zz_H} {t t' : cS} {o : kY} (hR : kR h t s) (hf : cf_151_13 N X x1 x2 t = some (t', o)) (k : (∀ h', kR h' t' s → kE o Q h')) : zz_J zp_P zt_tf zt_fd X d zm_151 13 [(0, .ref 49), (1, .int x1), (2, .long x2)] [] h Q := by
  unfold cf_151_13 at hf
  obtain ⟨d', rfl⟩ : ∃ d', d = d' + 1 := ⟨d - 1, by omega⟩
  refine cb_151_13 hR  (fun {h} hR => ?_)
  rcases ko_call_ok hf with ⟨g1, v1, er, hf⟩ | ⟨g1, er, hq⟩
  · obtain ⟨y, hv, hf2⟩ := co_i_ok hf
    clear hf
    have hf := hf2
    clear hf2
    subst hv
    refine cr_256 (by omega) hR er (fun h hR => ?_)
    exact cr_151_17 hd hR hf k
  · refine cr_256 (by omega) hR er (fun h hR => ?_)
    exact ko_thrown hq hR k
def cf_151_10 (N : Nat) (X : Nat → Option zz_C) (x1 : Int32) (x2 : Int64) (y0 : Int32) (t : cS) : kO := if ¬ y0 = 0 then cf_151_30 N X  t else cf_151_13 N X x1 x2 t
theorem cr_151_10 {X : Nat → Option zz_C} {s : mS} {N : Nat} {d : Nat} (hd : 10 ≤ d) {Q : zz_O → zz_H → Prop} {x1 : Int32} {x2 : Int64} {y0 : Int32} {h : zz_H} {t t' : cS} {o : kY} (hR : kR h t s) (hf : cf_151_10 N X x1 x2 y0 t = some (t', o)) (k : (∀ h', kR h' t' s → kE o Q h')) : zz_J zp_P zt_tf zt_fd X d zm_151 10 [(0, .ref 49), (1, .int x1), (2, .long x2)] [.int y0] h Q := by
  unfold cf_151_10 at hf
  refine cb_151_10 hR  (fun c {h} hR => ?_) (fun c {h} hR => ?_)
  · rw [if_pos c] at hf
    exact cr_151_30 hd hR hf k
  · rw [if_neg c] at hf
    exact cr_151_13 hd hR hf k
def cf_151_5 (N : Nat) (X : Nat → Option zz_C) (x1 : Int32) (y0 : Int64) (t : cS) : kO := ko_call 1000 (cf_255 N X y0 t) (fun g1 v1 => co_i v1 (fun y => cf_151_10 N X x1 y0 y g1))
theorem cr_151_5 {X : Nat → Option zz_C} {s : mS} {N : Nat} {d : Nat} (hd : 10 ≤ d) {Q : zz_O → zz_H → Prop} {x1 : Int32} {y0 : Int64} {h : zz_H} {t t' : cS} {o : kY} (hR : kR h t s) (hf : cf_151_5 N X x1 y0 t = some (t', o)) (k : (∀ h', kR h' t' s → kE o Q h')) : zz_J zp_P zt_tf zt_fd X d zm_151 5 [(0, .ref 49), (1, .int x1)] [.long y0] h Q := by
  unfold cf_151_5 at hf
  obtain ⟨d', rfl⟩ : ∃ d', d = d' + 1 := ⟨d - 1, by omega⟩
  refine cb_151_5 hR  (fun {h} hR => ?_)
  rcases ko_call_ok hf with ⟨g1, v1, er, hf⟩ | ⟨g1, er, hq⟩
  · obtain ⟨y, hv, hf2⟩ := co_i_ok hf
    clear hf
    have hf := hf2
    clear hf2
    subst hv
    refine cr_255 (by omega) hR er (fun h hR => ?_)
    exact cr_151_10 hd hR hf k
  · refine cr_255 (by omega) hR er (fun h hR => ?_)
    exact ko_thrown hq hR k
def cf_151_0 (N : Nat) (X : Nat → Option zz_C) (x1 : Int32) (t : cS) : kO := ko_call 3 (cf_167 N X 1 t) (fun g1 v1 => co_l v1 (fun y => cf_151_5 N X x1 y g1))
theorem cr_151_0 {X : Nat → Option zz_C} {s : mS} {N : Nat} {d : Nat} (hd : 10 ≤ d) {Q : zz_O → zz_H → Prop} {x1 : Int32} {h : zz_H} {t t' : cS} {o : kY} (hR : kR h t s) (hf : cf_151_0 N X x1 t = some (t', o)) (k : (∀ h', kR h' t' s → kE o Q h')) : zz_J zp_P zt_tf zt_fd X d zm_151 0 [(0, .ref 49), (1, .int x1)] [] h Q := by
  unfold cf_151_0 at hf
  obtain ⟨d', rfl⟩ : ∃ d', d = d' + 1 := ⟨d - 1, by omega⟩
  refine cb_151_0 hR  (fun {h} hR => ?_)
  rcases ko_call_ok hf with ⟨g1, v1, er, hf⟩ | ⟨g1, er, hq⟩
  · obtain ⟨y, hv, hf2⟩ := co_l_ok hf
    clear hf
    have hf := hf2
    clear hf2
    subst hv
    refine cr_167 (by omega) hR er (fun h hR => ?_)
    exact cr_151_5 hd hR hf k
  · refine cr_167 (by omega) hR er (fun h hR => ?_)
    exact ko_thrown hq hR k
/-- beginFor -/
def cf_151 (N : Nat) (X : Nat → Option zz_C) (x1 : Int32) (t : cS) : kO := cf_151_0 N X x1 t
theorem cr_151 {X : Nat → Option zz_C} {s : mS} {N : Nat} {d : Nat} (hd : 10 ≤ d) {Q : zz_O → zz_H → Prop} {x1 : Int32} {h : zz_H} {t t' : cS} {o : kY} (hR : kR h t s) (hf : cf_151 N X x1 t = some (t', o)) (k : ∀ h', kR h' t' s → kE o Q h') : zz_J zp_P zt_tf zt_fd X d zm_151 0 [(0, .ref 49), (1, .int x1)] [] h Q := by
  unfold cf_151 at hf
  exact zz_J.weak (cr_151_0 hd hR hf k) rfl ⟨rfl, rfl, trivial⟩
/-! yX2_sizeOf (J)I -/
theorem cb_128_0 {X : Nat → Option zz_C} {h : zz_H} {t : cS} {s : mS} {d : Nat} {Q : zz_O → zz_H → Prop} {x1 : Int64} (hR : kR h t s) (k1 : (Int64.toInt32 (x1 >>> (Int32.toInt64 32 &&& 63))) < 1 → (∀ {h : zz_H}, kR h t s → zz_J zp_P zt_tf zt_fd X d zm_128 34 [] [] h Q)) (k2 : ¬ (Int64.toInt32 (x1 >>> (Int32.toInt64 32 &&& 63))) < 1 → (∀ {h : zz_H}, kR h t s → zz_J zp_P zt_tf zt_fd X d zm_128 15 [(0, .ref 42), (3, .int (Int64.toInt32 (x1 >>> (Int32.toInt64 32 &&& 63)))), (4, .int (Int64.toInt32 x1))] [] h Q)) : zz_J zp_P zt_tf zt_fd X d zm_128 0 [(0, .ref 42), (1, .long x1)] [] h Q := by
  refine zz_J.n 1 rfl rfl rfl ?_
  refine zz_J.c 3 (.int 32) rfl rfl rfl rfl ?_
  refine zz_J.n 4 rfl rfl rfl ?_
  refine zz_J.n 5 rfl rfl rfl ?_
  refine zz_J.n 6 rfl rfl rfl ?_
  refine zz_J.n 7 rfl rfl rfl ?_
  refine zz_J.n 8 rfl rfl rfl ?_
  refine zz_J.n 10 rfl rfl rfl ?_
  refine zz_J.n 11 rfl rfl rfl ?_
  refine zz_J.c 12 (.int 1) rfl rfl rfl rfl ?_
  refine zz_J.b2 34 15 (A := (Int64.toInt32 (x1 >>> (Int32.toInt64 32 &&& 63))) < 1) rfl rfl (by decide) rfl rfl (fun c => ?_) (fun c => ?_)
  · exact zz_J.weak (k1 c hR) rfl trivial
  · exact zz_J.weak (k2 c hR) rfl ⟨rfl, rfl, rfl, trivial⟩
theorem cb_128_15 {X : Nat → Option zz_C} {h : zz_H} {t : cS} {s : mS} {d : Nat} {Q : zz_O → zz_H → Prop} {x3 : Int32} {x4 : Int32} (hR : kR h t s) (k1 : 3 < x3 → (∀ {h : zz_H}, kR h t s → zz_J zp_P zt_tf zt_fd X d zm_128 34 [] [] h Q)) (k2 : ¬ 3 < x3 → (∀ {h : zz_H}, kR h t s → zz_J zp_P zt_tf zt_fd X d zm_128 20 [(0, .ref 42), (4, .int x4)] [] h Q)) : zz_J zp_P zt_tf zt_fd X d zm_128 15 [(0, .ref 42), (3, .int x3), (4, .int x4)] [] h Q := by
  refine zz_J.n 16 rfl rfl rfl ?_
  refine zz_J.c 17 (.int 3) rfl rfl rfl rfl ?_
  refine zz_J.b2 34 20 (A := 3 < x3) rfl rfl (by decide) rfl rfl (fun c => ?_) (fun c => ?_)
  · exact zz_J.weak (k1 c hR) rfl trivial
  · exact zz_J.weak (k2 c hR) rfl ⟨rfl, rfl, trivial⟩
theorem cb_128_20 {X : Nat → Option zz_C} {h : zz_H} {t : cS} {s : mS} {d : Nat} {Q : zz_O → zz_H → Prop} {x4 : Int32} (hR : kR h t s) (k1 : x4 < 0 → (∀ {h : zz_H}, kR h t s → zz_J zp_P zt_tf zt_fd X d zm_128 34 [] [] h Q)) (k2 : ¬ x4 < 0 → (∀ {h : zz_H}, kR h t s → zz_J zp_P zt_tf zt_fd X d zm_128 25 [(0, .ref 42), (4, .int x4)] [] h Q)) : zz_J zp_P zt_tf zt_fd X d zm_128 20 [(0, .ref 42), (4, .int x4)] [] h Q := by
  refine zz_J.n 22 rfl rfl rfl ?_
  refine zz_J.b1 34 25 (A := x4 < 0) rfl rfl (by decide) rfl rfl (fun c => ?_) (fun c => ?_)
  · exact zz_J.weak (k1 c hR) rfl trivial
  · exact zz_J.weak (k2 c hR) rfl ⟨rfl, rfl, trivial⟩
theorem cb_128_25 {X : Nat → Option zz_C} {h : zz_H} {t : cS} {s : mS} {d : Nat} {Q : zz_O → zz_H → Prop} {x4 : Int32} (hR : kR h t s) (k1 : x4 < (kI t 42 1) → (∀ {h : zz_H}, kR h t s → zz_J zp_P zt_tf zt_fd X d zm_128 38 [(0, .ref 42), (4, .int x4)] [] h Q)) (k2 : ¬ x4 < (kI t 42 1) → (∀ {h : zz_H}, kR h t s → zz_J zp_P zt_tf zt_fd X d zm_128 34 [] [] h Q)) : zz_J zp_P zt_tf zt_fd X d zm_128 25 [(0, .ref 42), (4, .int x4)] [] h Q := by
  refine zz_J.n 27 rfl rfl rfl ?_
  refine zz_J.n 28 rfl rfl rfl ?_
  refine zz_J.g 31 rfl (hR.gv (v := .int (kI t 42 1)) ko_42 (by decide) rfl) rfl ?_
  refine zz_J.b2 38 34 (A := x4 < (kI t 42 1)) rfl rfl (by decide) rfl rfl (fun c => ?_) (fun c => ?_)
  · exact zz_J.weak (k1 c hR) rfl ⟨rfl, rfl, trivial⟩
  · exact zz_J.weak (k2 c hR) rfl trivial
theorem cb_128_34 {X : Nat → Option zz_C} {h : zz_H} {t : cS} {s : mS} {d : Nat} {Q : zz_O → zz_H → Prop}  (hR : kR h t s) (k : ∀ {h : zz_H}, kR h t s → zz_J zp_P zt_tf zt_fd X d zm_128 46 [] [.int 0] h Q) : zz_J zp_P zt_tf zt_fd X d zm_128 34 [] [] h Q := by
  refine zz_J.c 35 (.int 0) rfl rfl rfl rfl ?_
  refine zz_J.n 46 rfl rfl rfl ?_
  exact zz_J.weak (k hR) rfl trivial
theorem cb_128_38 {X : Nat → Option zz_C} {h : zz_H} {t : cS} {s : mS} {d : Nat} {Q : zz_O → zz_H → Prop} {x4 : Int32} (hR : kR h t s) (e0 : ¬ (x4 < 0 ∨ (kB t 43).1 ≤ (Int32.toNatClampNeg x4))) (k : ∀ {h : zz_H}, kR h t s → zz_J zp_P zt_tf zt_fd X d zm_128 46 [] [.int (Int64.toInt32 ((kB t 43).2 (Int32.toNatClampNeg x4)))] h Q) : zz_J zp_P zt_tf zt_fd X d zm_128 38 [(0, .ref 42), (4, .int x4)] [] h Q := by
  refine zz_J.n 39 rfl rfl rfl ?_
  refine zz_J.g 42 rfl (hR.gv (v := .ref (kD t 43)) ko_42 (by decide) rfl) rfl ?_
  refine zz_J.n 44 rfl rfl rfl ?_
  refine zz_J.al 45 rfl (hR.al (w := ((kB t 43).2 (Int32.toNatClampNeg x4))) ka_43 rfl e0 rfl) rfl ?_
  refine zz_J.n 46 rfl rfl rfl ?_
  exact zz_J.weak (k hR) rfl trivial
theorem cb_128_46 {X : Nat → Option zz_C} {h : zz_H} {t : cS} {s : mS} {d : Nat} {Q : zz_O → zz_H → Prop} {y0 : Int32} (hR : kR h t s) (k : ∀ {h : zz_H}, kR h t s → Q (.inl (some (.int y0))) h) : zz_J zp_P zt_tf zt_fd X d zm_128 46 [] [.int y0] h Q := by
  refine zz_J.ret rfl rfl rfl ?_
  exact k hR
def cf_128_46 (N : Nat) (X : Nat → Option zz_C) (y0 : Int32) (t : cS) : kO := some (t, .inl (some (.int y0)))
theorem cr_128_46 {X : Nat → Option zz_C} {s : mS} {N : Nat} {d : Nat} (hd : 0 ≤ d) {Q : zz_O → zz_H → Prop} {y0 : Int32} {h : zz_H} {t t' : cS} {o : kY} (hR : kR h t s) (hf : cf_128_46 N X y0 t = some (t', o)) (k : (∀ h', kR h' t' s → kE o Q h')) : zz_J zp_P zt_tf zt_fd X d zm_128 46 [] [.int y0] h Q := by
  unfold cf_128_46 at hf
  cases hf
  exact cb_128_46 hR  (fun {h} hR => k h hR)
def cf_128_34 (N : Nat) (X : Nat → Option zz_C)  (t : cS) : kO := cf_128_46 N X 0 t
theorem cr_128_34 {X : Nat → Option zz_C} {s : mS} {N : Nat} {d : Nat} (hd : 0 ≤ d) {Q : zz_O → zz_H → Prop}  {h : zz_H} {t t' : cS} {o : kY} (hR : kR h t s) (hf : cf_128_34 N X  t = some (t', o)) (k : (∀ h', kR h' t' s → kE o Q h')) : zz_J zp_P zt_tf zt_fd X d zm_128 34 [] [] h Q := by
  unfold cf_128_34 at hf
  exact cb_128_34 hR  (fun hR => cr_128_46 hd hR hf k)
def cf_128_38 (N : Nat) (X : Nat → Option zz_C) (x4 : Int32) (t : cS) : kO := if ¬ (x4 < 0 ∨ (kB t 43).1 ≤ (Int32.toNatClampNeg x4)) then (cf_128_46 N X (Int64.toInt32 ((kB t 43).2 (Int32.toNatClampNeg x4))) t) else none
theorem cr_128_38 {X : Nat → Option zz_C} {s : mS} {N : Nat} {d : Nat} (hd : 0 ≤ d) {Q : zz_O → zz_H → Prop} {x4 : Int32} {h : zz_H} {t t' : cS} {o : kY} (hR : kR h t s) (hf : cf_128_38 N X x4 t = some (t', o)) (k : (∀ h', kR h' t' s → kE o Q h')) : zz_J zp_P zt_tf zt_fd X d zm_128 38 [(0, .ref 42), (4, .int x4)] [] h Q := by
  unfold cf_128_38 at hf
  obtain ⟨e0, hf⟩ := ko_if hf
  exact cb_128_38 hR e0 (fun hR => cr_128_46 hd hR hf k)
def cf_128_25 (N : Nat) (X : Nat → Option zz_C) (x4 : Int32) (t : cS) : kO := if x4 < (kI t 42 1) then cf_128_38 N X x4 t else cf_128_34 N X  t
theorem cr_128_25 {X : Nat → Option zz_C} {s : mS} {N : Nat} {d : Nat} (hd : 0 ≤ d) {Q : zz_O → zz_H → Prop} {x4 : Int32} {h : zz_H} {t t' : cS} {o : kY} (hR : kR h t s) (hf : cf_128_25 N X x4 t = some (t', o)) (k : (∀ h', kR h' t' s → kE o Q h')) : zz_J zp_P zt_tf zt_fd X d zm_128 25 [(0, .ref 42), (4, .int x4)] [] h Q := by
  unfold cf_128_25 at hf
  refine cb_128_25 hR  (fun c {h} hR => ?_) (fun c {h} hR => ?_)
  · rw [if_pos c] at hf
    exact cr_128_38 hd hR hf k
  · rw [if_neg c] at hf
    exact cr_128_34 hd hR hf k
def cf_128_20 (N : Nat) (X : Nat → Option zz_C) (x4 : Int32) (t : cS) : kO := if x4 < 0 then cf_128_34 N X  t else cf_128_25 N X x4 t
theorem cr_128_20 {X : Nat → Option zz_C} {s : mS} {N : Nat} {d : Nat} (hd : 0 ≤ d) {Q : zz_O → zz_H → Prop} {x4 : Int32} {h : zz_H} {t t' : cS} {o : kY} (hR : kR h t s) (hf : cf_128_20 N X x4 t = some (t', o)) (k : (∀ h', kR h' t' s → kE o Q h')) : zz_J zp_P zt_tf zt_fd X d zm_128 20 [(0, .ref 42), (4, .int x4)] [] h Q := by
  unfold cf_128_20 at hf
  refine cb_128_20 hR  (fun c {h} hR => ?_) (fun c {h} hR => ?_)
  · rw [if_pos c] at hf
    exact cr_128_34 hd hR hf k
  · rw [if_neg c] at hf
    exact cr_128_25 hd hR hf k
def cf_128_15 (N : Nat) (X : Nat → Option zz_C) (x3 : Int32) (x4 : Int32) (t : cS) : kO := if 3 < x3 then cf_128_34 N X  t else cf_128_20 N X x4 t
theorem cr_128_15 {X : Nat → Option zz_C} {s : mS} {N : Nat} {d : Nat} (hd : 0 ≤ d) {Q : zz_O → zz_H → Prop} {x3 : Int32} {x4 : Int32} {h : zz_H} {t t' : cS} {o : kY} (hR : kR h t s) (hf : cf_128_15 N X x3 x4 t = some (t', o)) (k : (∀ h', kR h' t' s → kE o Q h')) : zz_J zp_P zt_tf zt_fd X d zm_128 15 [(0, .ref 42), (3, .int x3), (4, .int x4)] [] h Q := by
  unfold cf_128_15 at hf
  refine cb_128_15 hR  (fun c {h} hR => ?_) (fun c {h} hR => ?_)
  · rw [if_pos c] at hf
    exact cr_128_34 hd hR hf k
  · rw [if_neg c] at hf
    exact cr_128_20 hd hR hf k
def cf_128_0 (N : Nat) (X : Nat → Option zz_C) (x1 : Int64) (t : cS) : kO := if (Int64.toInt32 (x1 >>> (Int32.toInt64 32 &&& 63))) < 1 then cf_128_34 N X  t else cf_128_15 N X (Int64.toInt32 (x1 >>> (Int32.toInt64 32 &&& 63))) (Int64.toInt32 x1) t
theorem cr_128_0 {X : Nat → Option zz_C} {s : mS} {N : Nat} {d : Nat} (hd : 0 ≤ d) {Q : zz_O → zz_H → Prop} {x1 : Int64} {h : zz_H} {t t' : cS} {o : kY} (hR : kR h t s) (hf : cf_128_0 N X x1 t = some (t', o)) (k : (∀ h', kR h' t' s → kE o Q h')) : zz_J zp_P zt_tf zt_fd X d zm_128 0 [(0, .ref 42), (1, .long x1)] [] h Q := by
  unfold cf_128_0 at hf
  refine cb_128_0 hR  (fun c {h} hR => ?_) (fun c {h} hR => ?_)
  · rw [if_pos c] at hf
    exact cr_128_34 hd hR hf k
  · rw [if_neg c] at hf
    exact cr_128_15 hd hR hf k
/-- sizeOf -/
def cf_128 (N : Nat) (X : Nat → Option zz_C) (x1 : Int64) (t : cS) : kO := cf_128_0 N X x1 t
theorem cr_128 {X : Nat → Option zz_C} {s : mS} {N : Nat} {d : Nat} (hd : 0 ≤ d) {Q : zz_O → zz_H → Prop} {x1 : Int64} {h : zz_H} {t t' : cS} {o : kY} (hR : kR h t s) (hf : cf_128 N X x1 t = some (t', o)) (k : ∀ h', kR h' t' s → kE o Q h') : zz_J zp_P zt_tf zt_fd X d zm_128 0 [(0, .ref 42), (1, .long x1)] [] h Q := by
  unfold cf_128 at hf
  exact zz_J.weak (cr_128_0 hd hR hf k) rfl ⟨rfl, rfl, trivial⟩
/-! yX2_part (JI)J -/
theorem cb_129_0 {X : Nat → Option zz_C} {h : zz_H} {t : cS} {s : mS} {d : Nat} {Q : zz_O → zz_H → Prop} {x1 : Int64} {x3 : Int32} (hR : kR h t s) (k1 : (Int64.toInt32 (x1 >>> (Int32.toInt64 32 &&& 63))) < 1 → (∀ {h : zz_H}, kR h t s → zz_J zp_P zt_tf zt_fd X d zm_129 42 [] [] h Q)) (k2 : ¬ (Int64.toInt32 (x1 >>> (Int32.toInt64 32 &&& 63))) < 1 → (∀ {h : zz_H}, kR h t s → zz_J zp_P zt_tf zt_fd X d zm_129 22 [(0, .ref 42), (4, .int (Int64.toInt32 (x1 >>> (Int32.toInt64 32 &&& 63)))), (5, .int (((Int64.toInt32 x1) + (Int64.toInt32 (x1 >>> (Int32.toInt64 32 &&& 63)))) + x3))] [] h Q)) : zz_J zp_P zt_tf zt_fd X d zm_129 0 [(0, .ref 42), (1, .long x1), (3, .int x3)] [] h Q := by
  refine zz_J.n 1 rfl rfl rfl ?_
  refine zz_J.c 3 (.int 32) rfl rfl rfl rfl ?_
  refine zz_J.n 4 rfl rfl rfl ?_
  refine zz_J.n 5 rfl rfl rfl ?_
  refine zz_J.n 7 rfl rfl rfl ?_
  refine zz_J.n 8 rfl rfl rfl ?_
  refine zz_J.n 9 rfl rfl rfl ?_
  refine zz_J.n 11 rfl rfl rfl ?_
  refine zz_J.n 12 rfl rfl rfl ?_
  refine zz_J.n 13 rfl rfl rfl ?_
  refine zz_J.n 14 rfl rfl rfl ?_
  refine zz_J.n 16 rfl rfl rfl ?_
  refine zz_J.n 18 rfl rfl rfl ?_
  refine zz_J.c 19 (.int 1) rfl rfl rfl rfl ?_
  refine zz_J.b2 42 22 (A := (Int64.toInt32 (x1 >>> (Int32.toInt64 32 &&& 63))) < 1) rfl rfl (by decide) rfl rfl (fun c => ?_) (fun c => ?_)
  · exact zz_J.weak (k1 c hR) rfl trivial
  · exact zz_J.weak (k2 c hR) rfl ⟨rfl, rfl, rfl, trivial⟩
theorem cb_129_22 {X : Nat → Option zz_C} {h : zz_H} {t : cS} {s : mS} {d : Nat} {Q : zz_O → zz_H → Prop} {x4 : Int32} {x5 : Int32} (hR : kR h t s) (k1 : 3 < x4 → (∀ {h : zz_H}, kR h t s → zz_J zp_P zt_tf zt_fd X d zm_129 42 [] [] h Q)) (k2 : ¬ 3 < x4 → (∀ {h : zz_H}, kR h t s → zz_J zp_P zt_tf zt_fd X d zm_129 28 [(0, .ref 42), (4, .int x4), (5, .int x5)] [] h Q)) : zz_J zp_P zt_tf zt_fd X d zm_129 22 [(0, .ref 42), (4, .int x4), (5, .int x5)] [] h Q := by
  refine zz_J.n 24 rfl rfl rfl ?_
  refine zz_J.c 25 (.int 3) rfl rfl rfl rfl ?_
  refine zz_J.b2 42 28 (A := 3 < x4) rfl rfl (by decide) rfl rfl (fun c => ?_) (fun c => ?_)
  · exact zz_J.weak (k1 c hR) rfl trivial
  · exact zz_J.weak (k2 c hR) rfl ⟨rfl, rfl, rfl, trivial⟩
theorem cb_129_28 {X : Nat → Option zz_C} {h : zz_H} {t : cS} {s : mS} {d : Nat} {Q : zz_O → zz_H → Prop} {x4 : Int32} {x5 : Int32} (hR : kR h t s) (k1 : x5 < 0 → (∀ {h : zz_H}, kR h t s → zz_J zp_P zt_tf zt_fd X d zm_129 42 [] [] h Q)) (k2 : ¬ x5 < 0 → (∀ {h : zz_H}, kR h t s → zz_J zp_P zt_tf zt_fd X d zm_129 33 [(0, .ref 42), (4, .int x4), (5, .int x5)] [] h Q)) : zz_J zp_P zt_tf zt_fd X d zm_129 28 [(0, .ref 42), (4, .int x4), (5, .int x5)] [] h Q := by
  refine zz_J.n 30 rfl rfl rfl ?_
  refine zz_J.b1 42 33 (A := x5 < 0) rfl rfl (by decide) rfl rfl (fun c => ?_) (fun c => ?_)
  · exact zz_J.weak (k1 c hR) rfl trivial
  · exact zz_J.weak (k2 c hR) rfl ⟨rfl, rfl, rfl, trivial⟩
theorem cb_129_33 {X : Nat → Option zz_C} {h : zz_H} {t : cS} {s : mS} {d : Nat} {Q : zz_O → zz_H → Prop} {x4 : Int32} {x5 : Int32} (hR : kR h t s) (k1 : x5 < (kI t 42 1) → (∀ {h : zz_H}, kR h t s → zz_J zp_P zt_tf zt_fd X d zm_129 44 [(0, .ref 42), (4, .int x4), (5, .int x5)] [] h Q)) (k2 : ¬ x5 < (kI t 42 1) → (∀ {h : zz_H}, kR h t s → zz_J zp_P zt_tf zt_fd X d zm_129 42 [] [] h Q)) : zz_J zp_P zt_tf zt_fd X d zm_129 33 [(0, .ref 42), (4, .int x4), (5, .int x5)] [] h Q := by
  refine zz_J.n 35 rfl rfl rfl ?_
  refine zz_J.n 36 rfl rfl rfl ?_
  refine zz_J.g 39 rfl (hR.gv (v := .int (kI t 42 1)) ko_42 (by decide) rfl) rfl ?_
  refine zz_J.b2 44 42 (A := x5 < (kI t 42 1)) rfl rfl (by decide) rfl rfl (fun c => ?_) (fun c => ?_)
  · exact zz_J.weak (k1 c hR) rfl ⟨rfl, rfl, rfl, trivial⟩
  · exact zz_J.weak (k2 c hR) rfl trivial
theorem cb_129_42 {X : Nat → Option zz_C} {h : zz_H} {t : cS} {s : mS} {d : Nat} {Q : zz_O → zz_H → Prop}  (hR : kR h t s) (k : ∀ {h : zz_H}, kR h t s → Q (.inl (some (.long 0))) h) : zz_J zp_P zt_tf zt_fd X d zm_129 42 [] [] h Q := by
  refine zz_J.c 43 (.long 0) rfl rfl rfl rfl ?_
  refine zz_J.ret rfl rfl rfl ?_
  exact k hR
theorem cb_129_44 {X : Nat → Option zz_C} {h : zz_H} {t : cS} {s : mS} {d : Nat} {Q : zz_O → zz_H → Prop} {x4 : Int32} {x5 : Int32} (hR : kR h t s) (k1 : ¬ x4 = 3 → (∀ {h : zz_H}, kR h t s → zz_J zp_P zt_tf zt_fd X d zm_129 60 [(0, .ref 42), (4, .int x4), (5, .int x5)] [] h Q)) (k2 : ¬ ¬ x4 = 3 → (∀ {h : zz_H}, kR h t s → zz_J zp_P zt_tf zt_fd X d zm_129 50 [(0, .ref 42), (5, .int x5)] [] h Q)) : zz_J zp_P zt_tf zt_fd X d zm_129 44 [(0, .ref 42), (4, .int x4), (5, .int x5)] [] h Q := by
  refine zz_J.n 46 rfl rfl rfl ?_
  refine zz_J.c 47 (.int 3) rfl rfl rfl rfl ?_
  refine zz_J.b2 60 50 (A := ¬ x4 = 3) rfl (zz_cond_ne _ _) (by decide) rfl rfl (fun c => ?_) (fun c => ?_)
  · exact zz_J.weak (k1 c hR) rfl ⟨rfl, rfl, rfl, trivial⟩
  · exact zz_J.weak (k2 c hR) rfl ⟨rfl, rfl, trivial⟩
theorem cb_129_50 {X : Nat → Option zz_C} {h : zz_H} {t : cS} {s : mS} {d : Nat} {Q : zz_O → zz_H → Prop} {x5 : Int32} (hR : kR h t s) (e0 : ¬ (x5 < 0 ∨ (kB t 43).1 ≤ (Int32.toNatClampNeg x5))) (k : ∀ {h : zz_H}, kR h t s → zz_J zp_P zt_tf zt_fd X d zm_129 75 [] [.long ((kB t 43).2 (Int32.toNatClampNeg x5))] h Q) : zz_J zp_P zt_tf zt_fd X d zm_129 50 [(0, .ref 42), (5, .int x5)] [] h Q := by
  refine zz_J.n 51 rfl rfl rfl ?_
  refine zz_J.g 54 rfl (hR.gv (v := .ref (kD t 43)) ko_42 (by decide) rfl) rfl ?_
  refine zz_J.n 56 rfl rfl rfl ?_
  refine zz_J.al 57 rfl (hR.al (w := ((kB t 43).2 (Int32.toNatClampNeg x5))) ka_43 rfl e0 rfl) rfl ?_
  refine zz_J.n 75 rfl rfl rfl ?_
  exact zz_J.weak (k hR) rfl trivial
theorem cb_129_60 {X : Nat → Option zz_C} {h : zz_H} {t : cS} {s : mS} {d : Nat} {Q : zz_O → zz_H → Prop} {x4 : Int32} {x5 : Int32} (hR : kR h t s) (e0 : ¬ (x5 < 0 ∨ (kB t 43).1 ≤ (Int32.toNatClampNeg x5))) (k : ∀ {h : zz_H}, kR h t s → zz_J zp_P zt_tf zt_fd X d zm_253 0 [(0, .int (x4 - 1)), (1, .int (Int64.toInt32 ((kB t 43).2 (Int32.toNatClampNeg x5))))] [] h (zz_after 1000 Q (fun v h' => zz_J zp_P zt_tf zt_fd X (d + 1) zm_129 75 [] (v.toList ++ []) h' Q))) : zz_J zp_P zt_tf zt_fd X (d + 1) zm_129 60 [(0, .ref 42), (4, .int x4), (5, .int x5)] [] h Q := by
  refine zz_J.n 62 rfl rfl rfl ?_
  refine zz_J.c 63 (.int 1) rfl rfl rfl rfl ?_
  refine zz_J.n 64 rfl rfl rfl ?_
  refine zz_J.n 65 rfl rfl rfl ?_
  refine zz_J.g 68 rfl (hR.gv (v := .ref (kD t 43)) ko_42 (by decide) rfl) rfl ?_
  refine zz_J.n 70 rfl rfl rfl ?_
  refine zz_J.al 71 rfl (hR.al (w := ((kB t 43).2 (Int32.toNatClampNeg x5))) ka_43 rfl e0 rfl) rfl ?_
  refine zz_J.n 72 rfl rfl rfl ?_
  refine zz_J.cl (M' := zm_253) 75 rfl rfl (by decide) rfl rfl ⟨rfl, Nat.le_of_ble_eq_true rfl⟩ rfl ?_
  refine zz_J.mono (k hR) ?_
  intro o h' hE
  cases o with
  | inl v => exact zz_J.weak hE rfl trivial
  | inr q => exact hE
theorem cb_129_75 {X : Nat → Option zz_C} {h : zz_H} {t : cS} {s : mS} {d : Nat} {Q : zz_O → zz_H → Prop} {y0 : Int64} (hR : kR h t s) (k : ∀ {h : zz_H}, kR h t s → Q (.inl (some (.long y0))) h) : zz_J zp_P zt_tf zt_fd X d zm_129 75 [] [.long y0] h Q := by
  refine zz_J.ret rfl rfl rfl ?_
  exact k hR
def cf_129_42 (N : Nat) (X : Nat → Option zz_C)  (t : cS) : kO := some (t, .inl (some (.long 0)))
theorem cr_129_42 {X : Nat → Option zz_C} {s : mS} {N : Nat} {d : Nat} (hd : 1 ≤ d) {Q : zz_O → zz_H → Prop}  {h : zz_H} {t t' : cS} {o : kY} (hR : kR h t s) (hf : cf_129_42 N X  t = some (t', o)) (k : (∀ h', kR h' t' s → kE o Q h')) : zz_J zp_P zt_tf zt_fd X d zm_129 42 [] [] h Q := by
  unfold cf_129_42 at hf
  cases hf
  exact cb_129_42 hR  (fun {h} hR => k h hR)
def cf_129_75 (N : Nat) (X : Nat → Option zz_C) (y0 : Int64) (t : cS) : kO := some (t, .inl (some (.long y0)))
theorem cr_129_75 {X : Nat → Option zz_C} {s : mS} {N : Nat} {d : Nat} (hd : 1 ≤ d) {Q : zz_O → zz_H → Prop} {y0 : Int64} {h : zz_H} {t t' : cS} {o : kY} (hR : kR h t s) (hf : cf_129_75 N X y0 t = some (t', o)) (k : (∀ h', kR h' t' s → kE o Q h')) : zz_J zp_P zt_tf zt_fd X d zm_129 75 [] [.long y0] h Q := by
  unfold cf_129_75 at hf
  cases hf
  exact cb_129_75 hR  (fun {h} hR => k h hR)
def cf_129_60 (N : Nat) (X : Nat → Option zz_C) (x4 : Int32) (x5 : Int32) (t : cS) : kO := if ¬ (x5 < 0 ∨ (kB t 43).1 ≤ (Int32.toNatClampNeg x5)) then (ko_call 1000 (cf_253 N X (x4 - 1) (Int64.toInt32 ((kB t 43).2 (Int32.toNatClampNeg x5))) t) (fun g1 v1 => co_l v1 (fun y => cf_129_75 N X y g1))) else none
theorem cr_129_60 {X : Nat → Option zz_C} {s : mS} {N : Nat} {d : Nat} (hd : 1 ≤ d) {Q : zz_O → zz_H → Prop} {x4 : Int32} {x5 : Int32} {h : zz_H} {t t' : cS} {o : kY} (hR : kR h t s) (hf : cf_129_60 N X x4 x5 t = some (t', o)) (k : (∀ h', kR h' t' s → kE o Q h')) : zz_J zp_P zt_tf zt_fd X d zm_129 60 [(0, .ref 42), (4, .int x4), (5, .int x5)] [] h Q := by
  unfold cf_129_60 at hf
  obtain ⟨e0, hf⟩ := ko_if hf
  obtain ⟨d', rfl⟩ : ∃ d', d = d' + 1 := ⟨d - 1, by omega⟩
  refine cb_129_60 hR e0 (fun {h} hR => ?_)
  rcases ko_call_ok hf with ⟨g1, v1, er, hf⟩ | ⟨g1, er, hq⟩
  · obtain ⟨y, hv, hf2⟩ := co_l_ok hf
    clear hf
    have hf := hf2
    clear hf2
    subst hv
    refine cr_253 (by omega) hR er (fun h hR => ?_)
    exact cr_129_75 hd hR hf k
  · refine cr_253 (by omega) hR er (fun h hR => ?_)
    exact ko_thrown hq hR k
def cf_129_50 (N : Nat) (X : Nat → Option zz_C) (x5 : Int32) (t : cS) : kO := if ¬ (x5 < 0 ∨ (kB t 43).1 ≤ (Int32.toNatClampNeg x5)) then (cf_129_75 N X ((kB t 43).2 (Int32.toNatClampNeg x5)) t) else none
theorem cr_129_50 {X : Nat → Option zz_C} {s : mS} {N : Nat} {d : Nat} (hd : 1 ≤ d) {Q : zz_O → zz_H → Prop} {x5 : Int32} {h : zz_H} {t t' : cS} {o : kY} (hR : kR h t s) (hf : cf_129_50 N X x5 t = some (t', o)) (k : (∀ h', kR h' t' s → kE o Q h')) : zz_J zp_P zt_tf zt_fd X d zm_129 50 [(0, .ref 42), (5, .int x5)] [] h Q := by
  unfold cf_129_50 at hf
  obtain ⟨e0, hf⟩ := ko_if hf
  exact cb_129_50 hR e0 (fun hR => cr_129_75 hd hR hf k)
def cf_129_44 (N : Nat) (X : Nat → Option zz_C) (x4 : Int32) (x5 : Int32) (t : cS) : kO := if ¬ x4 = 3 then cf_129_60 N X x4 x5 t else cf_129_50 N X x5 t
theorem cr_129_44 {X : Nat → Option zz_C} {s : mS} {N : Nat} {d : Nat} (hd : 1 ≤ d) {Q : zz_O → zz_H → Prop} {x4 : Int32} {x5 : Int32} {h : zz_H} {t t' : cS} {o : kY} (hR : kR h t s) (hf : cf_129_44 N X x4 x5 t = some (t', o)) (k : (∀ h', kR h' t' s → kE o Q h')) : zz_J zp_P zt_tf zt_fd X d zm_129 44 [(0, .ref 42), (4, .int x4), (5, .int x5)] [] h Q := by
  unfold cf_129_44 at hf
  refine cb_129_44 hR  (fun c {h} hR => ?_) (fun c {h} hR => ?_)
  · rw [if_pos c] at hf
    exact cr_129_60 hd hR hf k
  · rw [if_neg c] at hf
    exact cr_129_50 hd hR hf k
def cf_129_33 (N : Nat) (X : Nat → Option zz_C) (x4 : Int32) (x5 : Int32) (t : cS) : kO := if x5 < (kI t 42 1) then cf_129_44 N X x4 x5 t else cf_129_42 N X  t
theorem cr_129_33 {X : Nat → Option zz_C} {s : mS} {N : Nat} {d : Nat} (hd : 1 ≤ d) {Q : zz_O → zz_H → Prop} {x4 : Int32} {x5 : Int32} {h : zz_H} {t t' : cS} {o : kY} (hR : kR h t s) (hf : cf_129_33 N X x4 x5 t = some (t', o)) (k : (∀ h', kR h' t' s → kE o Q h')) : zz_J zp_P zt_tf zt_fd X d zm_129 33 [(0, .ref 42), (4, .int x4), (5, .int x5)] [] h Q := by
  unfold cf_129_33 at hf
  refine cb_129_33 hR  (fun c {h} hR => ?_) (fun c {h} hR => ?_)
  · rw [if_pos c] at hf
    exact cr_129_44 hd hR hf k
  · rw [if_neg c] at hf
    exact cr_129_42 hd hR hf k
def cf_129_28 (N : Nat) (X : Nat → Option zz_C) (x4 : Int32) (x5 : Int32) (t : cS) : kO := if x5 < 0 then cf_129_42 N X  t else cf_129_33 N X x4 x5 t
theorem cr_129_28 {X : Nat → Option zz_C} {s : mS} {N : Nat} {d : Nat} (hd : 1 ≤ d) {Q : zz_O → zz_H → Prop} {x4 : Int32} {x5 : Int32} {h : zz_H} {t t' : cS} {o : kY} (hR : kR h t s) (hf : cf_129_28 N X x4 x5 t = some (t', o)) (k : (∀ h', kR h' t' s → kE o Q h')) : zz_J zp_P zt_tf zt_fd X d zm_129 28 [(0, .ref 42), (4, .int x4), (5, .int x5)] [] h Q := by
  unfold cf_129_28 at hf
  refine cb_129_28 hR  (fun c {h} hR => ?_) (fun c {h} hR => ?_)
  · rw [if_pos c] at hf
    exact cr_129_42 hd hR hf k
  · rw [if_neg c] at hf
    exact cr_129_33 hd hR hf k
def cf_129_22 (N : Nat) (X : Nat → Option zz_C) (x4 : Int32) (x5 : Int32) (t : cS) : kO := if 3 < x4 then cf_129_42 N X  t else cf_129_28 N X x4 x5 t
theorem cr_129_22 {X : Nat → Option zz_C} {s : mS} {N : Nat} {d : Nat} (hd : 1 ≤ d) {Q : zz_O → zz_H → Prop} {x4 : Int32} {x5 : Int32} {h : zz_H} {t t' : cS} {o : kY} (hR : kR h t s) (hf : cf_129_22 N X x4 x5 t = some (t', o)) (k : (∀ h', kR h' t' s → kE o Q h')) : zz_J zp_P zt_tf zt_fd X d zm_129 22 [(0, .ref 42), (4, .int x4), (5, .int x5)] [] h Q := by
  unfold cf_129_22 at hf
  refine cb_129_22 hR  (fun c {h} hR => ?_) (fun c {h} hR => ?_)
  · rw [if_pos c] at hf
    exact cr_129_42 hd hR hf k
  · rw [if_neg c] at hf
    exact cr_129_28 hd hR hf k
def cf_129_0 (N : Nat) (X : Nat → Option zz_C) (x1 : Int64) (x3 : Int32) (t : cS) : kO := if (Int64.toInt32 (x1 >>> (Int32.toInt64 32 &&& 63))) < 1 then cf_129_42 N X  t else cf_129_22 N X (Int64.toInt32 (x1 >>> (Int32.toInt64 32 &&& 63))) (((Int64.toInt32 x1) + (Int64.toInt32 (x1 >>> (Int32.toInt64 32 &&& 63)))) + x3) t
theorem cr_129_0 {X : Nat → Option zz_C} {s : mS} {N : Nat} {d : Nat} (hd : 1 ≤ d) {Q : zz_O → zz_H → Prop} {x1 : Int64} {x3 : Int32} {h : zz_H} {t t' : cS} {o : kY} (hR : kR h t s) (hf : cf_129_0 N X x1 x3 t = some (t', o)) (k : (∀ h', kR h' t' s → kE o Q h')) : zz_J zp_P zt_tf zt_fd X d zm_129 0 [(0, .ref 42), (1, .long x1), (3, .int x3)] [] h Q := by
  unfold cf_129_0 at hf
  refine cb_129_0 hR  (fun c {h} hR => ?_) (fun c {h} hR => ?_)
  · rw [if_pos c] at hf
    exact cr_129_42 hd hR hf k
  · rw [if_neg c] at hf
    exact cr_129_22 hd hR hf k
/-- part -/
def cf_129 (N : Nat) (X : Nat → Option zz_C) (x1 : Int64) (x3 : Int32) (t : cS) : kO := cf_129_0 N X x1 x3 t
theorem cr_129 {X : Nat → Option zz_C} {s : mS} {N : Nat} {d : Nat} (hd : 1 ≤ d) {Q : zz_O → zz_H → Prop} {x1 : Int64} {x3 : Int32} {h : zz_H} {t t' : cS} {o : kY} (hR : kR h t s) (hf : cf_129 N X x1 x3 t = some (t', o)) (k : ∀ h', kR h' t' s → kE o Q h') : zz_J zp_P zt_tf zt_fd X d zm_129 0 [(0, .ref 42), (1, .long x1), (3, .int x3)] [] h Q := by
  unfold cf_129 at hf
  exact zz_J.weak (cr_129_0 hd hR hf k) rfl ⟨rfl, rfl, rfl, trivial⟩
