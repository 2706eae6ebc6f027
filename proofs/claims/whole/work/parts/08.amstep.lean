/-! ===== one instruction, whatever it is (but calls and returns) ===== -/
/-- a row of a method's table: its place, the instruction, its length; what the tables say of it (numbers) -/
abbrev zz_N : Type := Nat × Instr × Nat × Nat × Nat × Int
def zz_wh (x : Option zz_F) (h : zz_H) : Option (zz_F × zz_H) := match x with
  | some f => some (f, h)
  | none => none
def zz_step1 (tf : Nat → Nat → FieldType) (fd : Nat → List Value) (X : Nat → Option zz_C) (nL : Nat) (r : zz_N) (pc : Nat) (lv : List (Nat × Value)) (st : List Value) (h : zz_H) : Option (zz_F × zz_H) := match r.2.1 with
  | .getfield _ => if r.2.2.2.1 < 20 then zz_getf r.2.2.2.1 r.2.2.2.2.1 r.2.2.1 pc lv st h else zz_getx X r.2.2.2.1 r.2.2.2.2.1 r.2.2.1 pc lv st h
  | .getstatic _ => zz_gets r.2.2.2.1 r.2.2.1 pc lv st h
  | .if_acmp cd off => zz_wh (zz_acmp cd off r.2.2.1 pc lv st) h
  | .putfield _ => zz_putf (tf r.2.2.2.1 r.2.2.2.2.1) r.2.2.2.1 r.2.2.2.2.1 r.2.2.1 pc lv st h
  | .iaload => zz_iald X r.2.2.1 pc lv st h
  | .laload => zz_lald X r.2.2.1 pc lv st h
  | .baload => zz_bald X r.2.2.1 pc lv st h
  | .aaload => zz_aald X r.2.2.1 pc lv st h
  | .arraylength => zz_alen X r.2.2.1 pc lv st h
  | .iastore => zz_iast r.2.2.1 pc lv st h
  | .lastore => zz_last r.2.2.1 pc lv st h
  | .bastore => zz_bast r.2.2.1 pc lv st h
  | .aastore => if r.2.2.2.2.2 = 1 then zz_aast2 r.2.2.1 pc lv st h else zz_aast r.2.2.1 pc lv st h
  | .new _ => if r.2.2.2.2.2 = -9 then none else zz_new (fd r.2.2.2.1) r.2.2.2.1 r.2.2.1 pc lv st h
  | .newarray ty => zz_newa ty r.2.2.1 pc lv st h
  | .anewarray _ => zz_anew r.2.2.1 pc lv st h
  | .multianewarray _ _ => zz_mna r.2.2.1 pc lv st h
  | .ldc _ => if r.2.2.2.2.1 = 0 then zz_wh (zz_ldc (Int32.ofInt r.2.2.2.2.2) r.2.2.1 pc lv st) h else zz_wh (zz_ldcs r.2.2.2.1 r.2.2.1 pc lv st) h
  | .ldc_w _ => zz_wh (zz_ldcw (Int32.ofInt r.2.2.2.2.2) r.2.2.1 pc lv st) h
  | .ldc2_w _ => zz_wh (zz_ldc2 (Int64.ofInt r.2.2.2.2.2) r.2.2.1 pc lv st) h
  | ins => zz_wh (zz_p nL ins r.2.2.1 pc lv st) h
/-- what the tables must say for a row -/
def zz_okR (cl : List vw_C) (tf : Nat → Nat → FieldType) (fd : Nat → List Value) (nf : Nat → Nat) (Ts NW : List Cond) (own nm : String) (r : zz_N) : Prop := match r.2.1 with
  | .getfield idx => if r.2.2.2.1 < 20 then ∃ q : vw_C, cl[r.2.2.2.1]? = some q ∧ r.2.2.2.2.1 < q.2.2 ∧ Cond.fieldLink own idx (q.2.1 r.2.2.2.2.1).1 (q.2.1 r.2.2.2.2.1).2.1 (q.2.1 r.2.2.2.2.1).2.2.1 ∈ Ts else (Cond.fieldLink own idx (zx_fd r.2.2.2.1 r.2.2.2.2.1).1 (zx_fd r.2.2.2.1 r.2.2.2.2.1).2.1 (zx_fd r.2.2.2.1 r.2.2.2.2.1).2.2 ∈ Ts ∨ ∃ host, Cond.fieldLinkNest own idx (zx_fd r.2.2.2.1 r.2.2.2.2.1).1 (zx_fd r.2.2.2.1 r.2.2.2.2.1).2.1 (zx_fd r.2.2.2.1 r.2.2.2.2.1).2.2 host ∈ NW)
  | .getstatic idx => ∃ q : String × String × String × Value, zx_S[r.2.2.2.1]? = some q ∧ Cond.fieldLink own idx q.1 q.2.1 q.2.2.1 ∈ Ts
  | .putfield idx => ∃ q : vw_C, cl[r.2.2.2.1]? = some q ∧ r.2.2.2.2.1 < q.2.2 ∧ Cond.fieldLink own idx (q.2.1 r.2.2.2.2.1).1 (q.2.1 r.2.2.2.2.1).2.1 (q.2.1 r.2.2.2.2.1).2.2.1 ∈ Ts ∧ ((q.2.1 r.2.2.2.2.1).2.2.2 = false ∨ ((q.2.1 r.2.2.2.2.1).2.2.2 = true ∧ nm = "<init>" ∧ (q.2.1 r.2.2.2.2.1).1 = own))
  | .new idx => if r.2.2.2.2.2 = -9 then True else ∃ q : vw_C, cl[r.2.2.2.1]? = some q ∧ (∀ j, j < q.2.2 → defaultValue (tf r.2.2.2.1 j) = vp_V (fd r.2.2.2.1) j) ∧ (fd r.2.2.2.1).all Value.isDefault = true ∧ nf r.2.2.2.1 = q.2.2 ∧ Cond.classLink own idx q.1 ∈ Ts ∧ Cond.instantiable q.1 q.2.2 ∈ Ts ∧ Cond.initialized q.1 ∈ Ts
  | .newarray ty => Cond.arrayClass (newarray.typeOf ty) ∈ Ts
  | .aastore => r.2.2.2.2.2 = 1 → Cond.arrayOver (.array .int) ∈ NW
  | .anewarray idx => Cond.classLink own idx "TallySlate$Shelves" ∈ Ts ∧ Cond.arrayOver (.object "TallySlate$Shelves") ∈ NW
  | .multianewarray idx dm => dm = 2 ∧ Cond.classLink own idx ("[" ++ (FieldType.array .int).toString) ∈ Ts ∧ Cond.arrayOver (.array .int) ∈ NW ∧ Cond.arrayClass .int ∈ Ts
  | .ldc idx => if r.2.2.2.2.1 = 0 then Cond.constant own idx (Int32.ofInt r.2.2.2.2.2) ∈ Ts else ∃ q : String × Nat × String × Nat, zx_K[r.2.2.2.1]? = some q ∧ q.1 = own ∧ q.2.1 = idx
  | .ldc_w idx => Cond.constant own idx (Int32.ofInt r.2.2.2.2.2) ∈ Ts
  | .ldc2_w idx => Cond.constantLong own idx (Int64.ofInt r.2.2.2.2.2) ∈ Ts
  | _ => True
theorem zz_v_dflt {B : Nat} {O : Nat → Nat} {fs : List Value} (h : fs.all Value.isDefault = true) : fs.map (zz_v B O) = fs := by
  have : ∀ v ∈ fs, zz_v B O v = v := fun v hv => by
    have := List.all_eq_true.mp h v hv
    cases v <;> first | rfl | (simp [Value.isDefault] at this)
  conv => rhs; rw [← List.map_id fs]
  exact List.map_congr_left (fun v hv => this v hv)
theorem zz_sl_set {nf : Nat → Nat} {h : zz_H} {k : Nat} {x0 x : zz_C} (hk : h[k]? = some x0) (hs : zz_sz nf x = zz_sz nf x0) : zz_sl nf (h.set k x) = zz_sl nf h := by
  unfold zz_sl
  rw [List.map_set, hs]
  congr 1
  apply List.ext_getElem?
  intro j
  rw [List.getElem?_set]
  by_cases hj : k = j
  · subst hj
    obtain ⟨h1, h2⟩ := List.getElem?_eq_some_iff.mp hk
    subst h2
    simp [h1]
  · simp [hj]
theorem zz_sl_app {nf : Nat → Nat} {h : zz_H} {x : zz_C} : zz_sl nf (h ++ [x]) = zz_sl nf h + zz_sz nf x := by
  simp [zz_sl]
theorem zz_sl_apps {nf : Nat → Nat} {h xs : zz_H} : zz_sl nf (h ++ xs) = zz_sl nf h + zz_sl nf xs := by
  simp [zz_sl]
theorem zz_sl_mna {nf : Nat → Nat} {N K : Nat} {d : (Nat → Int32) ⊕ (Nat → Int64) ⊕ (Nat → UInt32) ⊕ (Nat → UInt64) ⊕ (Nat → Option Nat)} {d2 : (Nat → Int32) ⊕ (Nat → Int64) ⊕ (Nat → UInt32) ⊕ (Nat → UInt64) ⊕ (Nat → Option Nat)} : zz_sl nf (.inl (5, N, d) :: List.replicate N (.inl (0, K, d2))) = N + N * K := by
  simp [zz_sl, zz_sz]
section ZS
variable {p : Program} {l : Launch} {e : Env} {R : Room} {s : State} {m : MethodId} {args : Array Value} {below : List Frame} {meth : Method} {c : Code} {H : Heap} {locs : List Loc} {Q : State → Prop}
variable {cc : ByteArray} {B : Nat} {O : Nat → Nat} {D : va_G} {cl : List vw_C} {dA : Nat → ClassId} {H0 : Heap} {h h' : zz_H} {Ts NW : List Cond} {own : String} {tf : Nat → Nat → FieldType} {fd : Nat → List Value} {nf : Nat → Nat} {X : Nat → Option zz_C}
variable {pc pc' nL L0 S0 : Nat} {lv lv' : List (Nat × Value)} {st st' : List Value} {ls : Array Slot} {r : zz_N}
theorem zz_jump_lv {b9 : Bool} {off : Int} (hs : zz_jump b9 off pc lv st = some (pc', lv', st')) : lv' = lv := by
  unfold zz_jump at hs
  split at hs
  · split at hs
    · cases hs; rfl
    · cases hs
  · split at hs
    · cases hs; rfl
    · cases hs
theorem zz_wh_ok {x : Option zz_F} {f' : zz_F} (hw : zz_wh x h = some (f', h')) : x = some f' ∧ h' = h := by
  cases x with
  | none => cases hw
  | some f => cases hw; exact ⟨rfl, rfl⟩
set_option maxHeartbeats 4000000 in
theorem zz_step1_ok (hx : p.tables.exec = Jvm.exec) (hb : c.code = cc) (hts : ∀ w ∈ Ts, w.before args s = true) (hG : zz_G cl tf Ts) (hown : s.vm.findClass own = some m.cls) (hK : va_K D cl (zz_tys dA) s) (hNw : ∀ w ∈ NW, va_Nw w s) {q7 : vw_C} (hc7 : cl[7]? = some q7) (hq7 : q7.1 = "TallySlate$Shelves") (hX : zz_X s B O X H0) (hH0 : H0 = s.heap) (hY : zz_Y B O X s s.heap) (hR : zz_R D cl B O dA H0 locs h H) (hl : lv_has ls nL (zz_l B O lv))
    (hd : decode cc pc = .ok (r.2.1, r.2.2.1)) {nm : String} (hnm : nm = "<init>" → meth.name = "<init>") (hr : zz_okR cl tf fd nf Ts NW own nm r) (hs : zz_step1 tf fd X nL r pc lv st h = some ((pc', lv', st'), h')) (hL0 : L0 ≤ h.length) (hS0 : S0 ≤ zz_sl nf h) (hRc : h'.length - L0 ≤ R.cells) (hRs : zz_sl nf h' - S0 ≤ R.slots)
    (kk : ∀ (H1 : Heap) (locs1 : List Loc) (ls1 : Array Slot), zz_R D cl B O dA H0 locs1 h' H1 → lv_has ls1 nL (zz_l B O lv') → W p l e R s m args below meth c H1 locs1 (h'.length - L0) (zz_sl nf h' - S0) Q (F0 m pc' ls1 (zz_s B O st'))) : W p l e R s m args below meth c H locs (h.length - L0) (zz_sl nf h - S0) Q (F0 m pc ls (zz_s B O st)) := by
  obtain ⟨pc0, ins, ln, na, nb, nn⟩ := r
  simp only at hd
  cases ins
  case getfield idx =>
    simp only [zz_step1] at hs
    simp only [zz_okR] at hr
    by_cases hna : na < 20
    · rw [if_pos hna] at hs hr
      obtain ⟨q, g1, g2, g3⟩ := hr
      have e1 : lv' = lv := by
        have hs := hs
        unfold zz_getf at hs
        repeat (split at hs <;> try cases hs)
        rfl
      have e2 : h' = h := by
        have hs := hs
        unfold zz_getf at hs
        repeat (split at hs <;> try cases hs)
        rfl
      subst e1
      subst e2
      exact (zz_getf_ok hx hb hts hG hown hK hR g1 g2 g3 hd hs (kk H locs ls hR hl)).1
    · rw [if_neg hna] at hs hr
      have e1 : lv' = lv ∧ h' = h := by
        have hs := hs
        unfold zz_getx at hs
        repeat (split at hs <;> try cases hs)
        exact ⟨rfl, rfl⟩
      obtain ⟨e1, e2⟩ := e1
      subst e1
      subst e2
      subst hH0
      refine (zz_getx_ok hx hb hown hY hR (hr.imp (fun g => hts _ g) (fun g => ?_)) hd hs (kk H locs ls hR hl)).1
      obtain ⟨host, g⟩ := g
      exact ⟨host, (hNw _ g).use rfl⟩
  case getstatic idx =>
    simp only [zz_step1] at hs
    obtain ⟨q, g1, g2⟩ := hr
    have e1 : lv' = lv ∧ h' = h := by
      have hs := hs
      unfold zz_gets at hs
      repeat (split at hs <;> try cases hs)
      exact ⟨rfl, rfl⟩
    obtain ⟨e1, e2⟩ := e1
    subst e1
    subst e2
    subst hH0
    exact (zz_gets_ok hx hb hown hY hR g1 (hts _ g2) hd hs (kk H locs ls hR hl)).1
  case if_acmp cd off =>
    simp only [zz_step1] at hs
    obtain ⟨hs1, e2⟩ := zz_wh_ok hs
    clear hs
    subst e2
    have e1 : lv' = lv := by
      have hs := hs1
      unfold zz_acmp at hs
      split at hs
      · split at hs
        · exact (zz_jump_lv hs)
        · cases hs
      · cases hs
    subst e1
    exact (zz_acmp_ok hx hb hY hd hs1 (kk H locs ls hR hl)).1
  case iaload =>
    simp only [zz_step1] at hs
    have e1 : lv' = lv := by
      have hs := hs
      unfold zz_iald at hs
      repeat (split at hs <;> try cases hs)
      rfl
    have e2 : h' = h := by
      have hs := hs
      unfold zz_iald at hs
      repeat (split at hs <;> try cases hs)
      rfl
    subst e1
    subst e2
    exact (zz_iald_ok hx hb hK hR hX hd hs (kk H locs ls hR hl)).1
  case laload =>
    simp only [zz_step1] at hs
    have e1 : lv' = lv := by
      have hs := hs
      unfold zz_lald at hs
      repeat (split at hs <;> try cases hs)
      rfl
    have e2 : h' = h := by
      have hs := hs
      unfold zz_lald at hs
      repeat (split at hs <;> try cases hs)
      rfl
    subst e1
    subst e2
    exact (zz_lald_ok hx hb hK hR hX hd hs (kk H locs ls hR hl)).1
  case baload =>
    simp only [zz_step1] at hs
    have e1 : lv' = lv := by
      have hs := hs
      unfold zz_bald at hs
      repeat (split at hs <;> try cases hs)
      rfl
    have e2 : h' = h := by
      have hs := hs
      unfold zz_bald at hs
      repeat (split at hs <;> try cases hs)
      rfl
    subst e1
    subst e2
    exact (zz_bald_ok hx hb hK hR hX hd hs (kk H locs ls hR hl)).1
  case aaload =>
    simp only [zz_step1] at hs
    have e1 : lv' = lv := by
      have hs := hs
      unfold zz_aald at hs
      repeat (split at hs <;> try cases hs)
      rfl
    have e2 : h' = h := by
      have hs := hs
      unfold zz_aald at hs
      repeat (split at hs <;> try cases hs)
      rfl
    subst e1
    subst e2
    exact (zz_aald_ok hx hb hK hR hX hd hs (kk H locs ls hR hl)).1
  case arraylength =>
    simp only [zz_step1] at hs
    have e1 : lv' = lv := by
      have hs := hs
      unfold zz_alen at hs
      repeat (split at hs <;> try cases hs)
      rfl
    have e2 : h' = h := by
      have hs := hs
      unfold zz_alen at hs
      repeat (split at hs <;> try cases hs)
      rfl
    subst e1
    subst e2
    exact (zz_alen_ok hx hb hK hR hX hd hs (kk H locs ls hR hl)).1
  case putfield idx =>
    simp only [zz_step1] at hs
    obtain ⟨q, g1, g2, g3, g4⟩ := hr
    have e1 : lv' = lv := by
      have hs := hs
      unfold zz_putf at hs
      repeat (split at hs <;> try cases hs)
      rfl
    have e2 : h'.length = h.length ∧ zz_sl nf h' = zz_sl nf h := by
      have hs := hs
      unfold zz_putf at hs
      repeat (split at hs <;> try cases hs)
      refine ⟨List.length_set, zz_sl_set (zz_at_ok (by assumption)).2 ?_⟩
      rfl
    subst e1
    rw [e2.1, e2.2] at kk
    exact (zz_putf_ok hx hb hts hG hown hK hR g1 g2 g3 (g4.imp id (fun q => ⟨q.1, hnm q.2.1, q.2.2⟩)) hd hs (fun H1 locs1 g => kk H1 locs1 ls g hl)).1
  case iastore =>
    simp only [zz_step1] at hs
    have e1 : lv' = lv := by
      have hs := hs
      unfold zz_iast at hs
      repeat (split at hs <;> try cases hs)
      rfl
    have e2 : h'.length = h.length ∧ zz_sl nf h' = zz_sl nf h := by
      have hs := hs
      unfold zz_iast at hs
      repeat (split at hs <;> try cases hs)
      refine ⟨List.length_set, zz_sl_set (zz_at_ok (by assumption)).2 ?_⟩
      rfl
    subst e1
    rw [e2.1, e2.2] at kk
    exact (zz_iast_ok hx hb hK hR hd hs (fun H1 locs1 g => kk H1 locs1 ls g hl)).1
  case lastore =>
    simp only [zz_step1] at hs
    have e1 : lv' = lv := by
      have hs := hs
      unfold zz_last at hs
      repeat (split at hs <;> try cases hs)
      rfl
    have e2 : h'.length = h.length ∧ zz_sl nf h' = zz_sl nf h := by
      have hs := hs
      unfold zz_last at hs
      repeat (split at hs <;> try cases hs)
      refine ⟨List.length_set, zz_sl_set (zz_at_ok (by assumption)).2 ?_⟩
      rfl
    subst e1
    rw [e2.1, e2.2] at kk
    exact (zz_last_ok hx hb hK hR hd hs (fun H1 locs1 g => kk H1 locs1 ls g hl)).1
  case bastore =>
    simp only [zz_step1] at hs
    have e1 : lv' = lv := by
      have hs := hs
      unfold zz_bast at hs
      repeat (split at hs <;> try cases hs)
      rfl
    have e2 : h'.length = h.length ∧ zz_sl nf h' = zz_sl nf h := by
      have hs := hs
      unfold zz_bast at hs
      repeat (split at hs <;> try cases hs)
      refine ⟨List.length_set, zz_sl_set (zz_at_ok (by assumption)).2 ?_⟩
      rfl
    subst e1
    rw [e2.1, e2.2] at kk
    exact (zz_bast_ok hx hb hK hR hd hs (fun H1 locs1 g => kk H1 locs1 ls g hl)).1
  case aastore =>
    simp only [zz_step1] at hs
    by_cases hn1 : nn = 1
    · rw [if_pos hn1] at hs
      have e1 : lv' = lv := by
        have hs := hs
        unfold zz_aast2 at hs
        repeat (split at hs <;> try cases hs)
        rfl
      have e2 : h'.length = h.length ∧ zz_sl nf h' = zz_sl nf h := by
        have hs := hs
        unfold zz_aast2 at hs
        repeat (split at hs <;> try cases hs)
        refine ⟨List.length_set, zz_sl_set (zz_at_ok (by assumption)).2 ?_⟩
        rfl
      subst e1
      rw [e2.1, e2.2] at kk
      exact (zz_aast2_ok hx hb hK hR (hNw _ (hr hn1)) hd hs (fun H1 locs1 g => kk H1 locs1 ls g hl)).1
    · rw [if_neg hn1] at hs
      have e1 : lv' = lv := by
        have hs := hs
        unfold zz_aast at hs
        repeat (split at hs <;> try cases hs)
        rfl
      have e2 : h'.length = h.length ∧ zz_sl nf h' = zz_sl nf h := by
        have hs := hs
        unfold zz_aast at hs
        repeat (split at hs <;> try cases hs)
        refine ⟨List.length_set, zz_sl_set (zz_at_ok (by assumption)).2 ?_⟩
        rfl
      subst e1
      rw [e2.1, e2.2] at kk
      exact (zz_aast_ok hx hb hK hR hc7 hq7 hd hs (fun H1 locs1 g => kk H1 locs1 ls g hl)).1
  case new idx =>
    simp only [zz_step1] at hs
    have hn9 : ¬ nn = -9 := by
      intro z
      rw [if_pos z] at hs
      cases hs
    rw [if_neg hn9] at hs
    simp only [zz_okR] at hr
    rw [if_neg hn9] at hr
    obtain ⟨q, g1, g2, g3, g4, g5, g6, g7⟩ := hr
    have e1 : lv' = lv ∧ h' = h ++ [.inr (na, fd na)] := by
      have hs := hs
      unfold zz_new at hs
      repeat (split at hs <;> try cases hs)
      exact ⟨rfl, rfl⟩
    have e2 : h'.length = h.length + 1 ∧ zz_sl nf h' = zz_sl nf h + q.2.2 := by
      rw [e1.2, zz_sl_app, List.length_append, ← g4]
      exact ⟨rfl, rfl⟩
    obtain ⟨e1, -⟩ := e1
    subst e1
    have c1 : h'.length - L0 = h.length - L0 + 1 := by omega
    have c2 : zz_sl nf h' - S0 = zz_sl nf h - S0 + q.2.2 := by omega
    rw [c1, c2] at kk
    exact (zz_new_ok hx hb hts hG hown hK hR g1 g2 (zz_v_dflt g3) g5 g6 g7 (by omega) (by omega) hd hs (fun H1 g => kk H1 locs ls g hl)).1
  case newarray ty =>
    simp only [zz_step1] at hs
    have e1 : lv' = lv ∧ ∃ (t n : Nat) (d : (Nat → Int32) ⊕ (Nat → Int64) ⊕ (Nat → UInt32) ⊕ (Nat → UInt64) ⊕ (Nat → Option Nat)), h' = h ++ [.inl (t, n, d)] := by
      have hs := hs
      unfold zz_newa at hs
      repeat (split at hs <;> try cases hs)
      exact ⟨rfl, _, _, _, rfl⟩
    obtain ⟨e1, t9, n9, d9, e9⟩ := e1
    have e2 : h'.length = h.length + 1 ∧ zz_sl nf h' = zz_sl nf h + n9 := by
      rw [e9, zz_sl_app, List.length_append]
      exact ⟨rfl, rfl⟩
    subst e1
    have c1 : h'.length - L0 = h.length - L0 + 1 := by omega
    have c2 : zz_sl nf h' - S0 = zz_sl nf h - S0 + n9 := by omega
    rw [c1, c2] at kk
    exact (zz_newa_ok hx hb hts hK hR hr hd hs (by omega) (ns := n9) (fun x gx => by rw [e9] at gx; have := List.append_cancel_left gx; cases this; rfl) (by omega) (fun H1 g => kk H1 locs ls g hl)).1
  case anewarray idx =>
    simp only [zz_step1] at hs
    obtain ⟨g1, g2⟩ := hr
    have e1 : lv' = lv ∧ ∃ (t n : Nat) (d : (Nat → Int32) ⊕ (Nat → Int64) ⊕ (Nat → UInt32) ⊕ (Nat → UInt64) ⊕ (Nat → Option Nat)), h' = h ++ [.inl (t, n, d)] := by
      have hs := hs
      unfold zz_anew at hs
      repeat (split at hs <;> try cases hs)
      exact ⟨rfl, _, _, _, rfl⟩
    obtain ⟨e1, t9, n9, d9, e9⟩ := e1
    have e2 : h'.length = h.length + 1 ∧ zz_sl nf h' = zz_sl nf h + n9 := by
      rw [e9, zz_sl_app, List.length_append]
      exact ⟨rfl, rfl⟩
    subst e1
    have c1 : h'.length - L0 = h.length - L0 + 1 := by omega
    have c2 : zz_sl nf h' - S0 = zz_sl nf h - S0 + n9 := by omega
    rw [c1, c2] at kk
    exact (zz_anew_ok hx hb hts hown hK hR g1 (hNw _ g2) hd hs (by omega) (ns := n9) (fun x gx => by rw [e9] at gx; have := List.append_cancel_left gx; cases this; rfl) (by omega) (fun H1 g => kk H1 locs ls g hl)).1
  case multianewarray idx dm =>
    simp only [zz_step1] at hs
    obtain ⟨g0, g1, g2, g3⟩ := hr
    have g0 : dm = 2 := g0
    subst g0
    have e1 : lv' = lv ∧ ∃ (x y : Int32) (r0 : List Value) (d d2 : (Nat → Int32) ⊕ (Nat → Int64) ⊕ (Nat → UInt32) ⊕ (Nat → UInt64) ⊕ (Nat → Option Nat)), st = .int y :: .int x :: r0 ∧ h' = h ++ (.inl (5, x.toNatClampNeg, d) :: List.replicate x.toNatClampNeg (.inl (0, y.toNatClampNeg, d2))) := by
      have hs := hs
      unfold zz_mna at hs
      repeat (split at hs <;> try cases hs)
      exact ⟨rfl, _, _, _, _, _, rfl, rfl⟩
    obtain ⟨e1, x9, y9, r9, d9, d8, e8, e9⟩ := e1
    have e2 : h'.length = h.length + (1 + x9.toNatClampNeg) ∧ zz_sl nf h' = zz_sl nf h + (x9.toNatClampNeg + x9.toNatClampNeg * y9.toNatClampNeg) := by
      rw [e9, zz_sl_apps, zz_sl_mna, List.length_append, List.length_cons, List.length_replicate]
      exact ⟨by omega, rfl⟩
    subst e1
    have c1 : h'.length - L0 = h.length - L0 + 1 + x9.toNatClampNeg := by omega
    have c2 : zz_sl nf h' - S0 = zz_sl nf h - S0 + x9.toNatClampNeg + x9.toNatClampNeg * y9.toNatClampNeg := by omega
    rw [c1, c2] at kk
    exact (zz_mna_ok hx hb hts hown hK hR g1 (hNw _ g2) g3 hd hs (nn := x9.toNatClampNeg) (kk9 := y9.toNatClampNeg) (fun x y r0 q => by rw [e8] at q; cases q; exact ⟨rfl, rfl⟩) (by omega) (by omega) (fun H1 g => kk H1 locs ls g hl)).1
  case ldc idx =>
    simp only [zz_step1] at hs
    simp only [zz_okR] at hr
    by_cases hnb : nb = 0
    · rw [if_pos hnb] at hs hr
      obtain ⟨hs1, e2⟩ := zz_wh_ok hs
      clear hs
      subst e2
      have e1 : lv' = lv := by
        have hs := hs1
        unfold zz_ldc at hs
        repeat (split at hs <;> try cases hs)
        rfl
      subst e1
      exact (zz_ldc_ok hx hb hts hown hr hd hs1 (kk H locs ls hR hl)).1
    · rw [if_neg hnb] at hs hr
      obtain ⟨hs1, e2⟩ := zz_wh_ok hs
      clear hs
      subst e2
      have e1 : lv' = lv := by
        have hs := hs1
        unfold zz_ldcs at hs
        repeat (split at hs <;> try cases hs)
        rfl
      subst e1
      obtain ⟨q, g1, g2, g3⟩ := hr
      exact (zz_ldcs_ok hx hb hown hY g1 g2 g3 hd hs1 (kk H locs ls hR hl)).1
  case ldc_w idx =>
    simp only [zz_step1] at hs
    obtain ⟨hs1, e2⟩ := zz_wh_ok hs
    clear hs
    subst e2
    have e1 : lv' = lv := by
      have hs := hs1
      unfold zz_ldcw at hs
      repeat (split at hs <;> try cases hs)
      rfl
    subst e1
    exact (zz_ldcw_ok hx hb hts hown hr hd hs1 (kk H locs ls hR hl)).1
  case ldc2_w idx =>
    simp only [zz_step1] at hs
    obtain ⟨hs1, e2⟩ := zz_wh_ok hs
    clear hs
    subst e2
    have e1 : lv' = lv := by
      have hs := hs1
      unfold zz_ldc2 at hs
      repeat (split at hs <;> try cases hs)
      rfl
    subst e1
    exact (zz_ldc2_ok hx hb hts hown hr hd hs1 (kk H locs ls hR hl)).1
  all_goals (
    simp only [zz_step1] at hs
    obtain ⟨hs1, e2⟩ := zz_wh_ok hs
    clear hs
    subst e2
    exact zz_p_ok hx hb hs1 hd hl (fun ls1 hl1 => kk H locs ls1 hR hl1))
end ZS
