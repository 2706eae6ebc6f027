/-! ===== writes to fields, arrays ===== -/
def zz_dv (B : Nat) (O : Nat → Nat) (d : (Nat → Int32) ⊕ (Nat → Int64) ⊕ (Nat → UInt32) ⊕ (Nat → UInt64) ⊕ (Nat → Option Nat)) (j : Nat) : Value := match d with
  | .inl f => .int (f j)
  | .inr (.inl f) => .long (f j)
  | .inr (.inr (.inl f)) => .float (f j)
  | .inr (.inr (.inr (.inl f))) => .double (f j)
  | .inr (.inr (.inr (.inr f))) => va_rf ((f j).map (zz_a B O))
/-- what is read of an array, within or outside -/
def zz_Rd (s : State) (B : Nat) (O : Nat → Nat) (H : Heap) (a : Nat) : zz_C → Prop
  | .inl (t, n, d) => ∃ cell : Cell, H[zz_a B O a]? = some cell ∧ s.isArrayOf cell (zz_ty t) ∧ cell.vm ≠ .unknown ∧ (n ≤ cell.slots.size ∧ cell.slots.size.toInt32 = Int32.ofNat n) ∧ ∀ j, j < n → cell.slots[j]? = some (zz_dv B O d j)
  | .inr _ => True
def zz_rd (X : Nat → Option zz_C) (h : zz_H) (a : Nat) : Option zz_C := if a < zz_out then h[a]? else X (a - zz_out)
/-- the cells outside, at the start -/
def zz_X (s : State) (B : Nat) (O : Nat → Nat) (X : Nat → Option zz_C) (H0 : Heap) : Prop := ∀ (j : Nat) (x : zz_C), X j = some x → zz_Rd s B O H0 (zz_out + j) x ∧ O j < B
def zz_iald (X : Nat → Option zz_C) (ln pc : Nat) (lv : List (Nat × Value)) (st : List Value) (h : zz_H) : Option (zz_F × zz_H) := match st with
  | .int i :: .ref a :: r => match zz_rd X h a with
    | some (.inl (t, n, .inl f)) => if ln = 1 ∧ t = 0 ∧ ¬ (i < 0 ∨ n ≤ i.toNatClampNeg) then some ((pc + 1, lv, .int (f i.toNatClampNeg) :: r), h) else none
    | _ => none
  | _ => none
def zz_lald (X : Nat → Option zz_C) (ln pc : Nat) (lv : List (Nat × Value)) (st : List Value) (h : zz_H) : Option (zz_F × zz_H) := match st with
  | .int i :: .ref a :: r => match zz_rd X h a with
    | some (.inl (t, n, .inr (.inl f))) => if ln = 1 ∧ t = 1 ∧ ¬ (i < 0 ∨ n ≤ i.toNatClampNeg) then some ((pc + 1, lv, .long (f i.toNatClampNeg) :: r), h) else none
    | _ => none
  | _ => none
def zz_bald (X : Nat → Option zz_C) (ln pc : Nat) (lv : List (Nat × Value)) (st : List Value) (h : zz_H) : Option (zz_F × zz_H) := match st with
  | .int i :: .ref a :: r => match zz_rd X h a with
    | some (.inl (t, n, .inl f)) => if ln = 1 ∧ (t = 2 ∨ t = 3) ∧ ¬ (i < 0 ∨ n ≤ i.toNatClampNeg) then some ((pc + 1, lv, .int (f i.toNatClampNeg) :: r), h) else none
    | _ => none
  | _ => none
def zz_rv (r : Option Nat) : Value := match r with
  | some k => .ref k
  | none => .null
theorem zz_rv_v (B : Nat) (O : Nat → Nat) (r : Option Nat) : zz_v B O (zz_rv r) = va_rf (r.map (zz_a B O)) := by cases r <;> rfl
def zz_aald (X : Nat → Option zz_C) (ln pc : Nat) (lv : List (Nat × Value)) (st : List Value) (h : zz_H) : Option (zz_F × zz_H) := match st with
  | .int i :: .ref a :: r => match zz_rd X h a with
    | some (.inl (t, n, .inr (.inr (.inr (.inr f))))) => if ln = 1 ∧ (4 ≤ t ∧ (t < 6 ∨ ¬ a < zz_out)) ∧ ¬ (i < 0 ∨ n ≤ i.toNatClampNeg) then some ((pc + 1, lv, zz_rv (f i.toNatClampNeg) :: r), h) else none
    | _ => none
  | _ => none
def zz_alen (X : Nat → Option zz_C) (ln pc : Nat) (lv : List (Nat × Value)) (st : List Value) (h : zz_H) : Option (zz_F × zz_H) := match st with
  | .ref a :: r => match zz_rd X h a with
    | some (.inl (t, n, _)) => if ln = 1 ∧ (t < 6 ∨ ¬ a < zz_out) then some ((pc + 1, lv, .int (Int32.ofNat n) :: r), h) else none
    | _ => none
  | _ => none
def zz_iast (ln pc : Nat) (lv : List (Nat × Value)) (st : List Value) (h : zz_H) : Option (zz_F × zz_H) := match st with
  | .int x :: .int i :: .ref a :: r => match zz_at h a with
    | some (.inl (t, n, .inl f)) => if ln = 1 ∧ t = 0 ∧ ¬ (i < 0 ∨ n ≤ i.toNatClampNeg) then some ((pc + 1, lv, r), h.set a (.inl (t, n, .inl (upd f i.toNatClampNeg x)))) else none
    | _ => none
  | _ => none
def zz_last (ln pc : Nat) (lv : List (Nat × Value)) (st : List Value) (h : zz_H) : Option (zz_F × zz_H) := match st with
  | .long x :: .int i :: .ref a :: r => match zz_at h a with
    | some (.inl (t, n, .inr (.inl f))) => if ln = 1 ∧ t = 1 ∧ ¬ (i < 0 ∨ n ≤ i.toNatClampNeg) then some ((pc + 1, lv, r), h.set a (.inl (t, n, .inr (.inl (vp_updL f i.toNatClampNeg x))))) else none
    | _ => none
  | _ => none
def zz_bast (ln pc : Nat) (lv : List (Nat × Value)) (st : List Value) (h : zz_H) : Option (zz_F × zz_H) := match st with
  | .int x :: .int i :: .ref a :: r => match zz_at h a with
    | some (.inl (t, n, .inl f)) => if ln = 1 ∧ (t = 2 ∨ t = 3) ∧ ¬ (i < 0 ∨ n ≤ i.toNatClampNeg) then some ((pc + 1, lv, r), h.set a (.inl (t, n, .inl (upd f i.toNatClampNeg (vp_nar (zz_ty t) x))))) else none
    | _ => none
  | _ => none
section ZA
variable {p : Program} {l : Launch} {e : Env} {R : Room} {s : State} {m : MethodId} {args : Array Value} {below : List Frame} {meth : Method} {c : Code} {H : Heap} {locs : List Loc} {cells slots : Nat} {Q : State → Prop}
variable {cc : ByteArray} {B : Nat} {O : Nat → Nat} {D : va_G} {cl : List vw_C} {dA : Nat → ClassId} {H0 : Heap} {h h' : zz_H} {Ts : List Cond} {own : String} {tf : Nat → Nat → FieldType} {X : Nat → Option zz_C}
variable {ln pc pc' : Nat} {lv lv' : List (Nat × Value)} {st st' : List Value} {ls : Array Slot}
theorem zz_R.put (hR : zz_R D cl B O dA H0 locs h H) {k i : Nat} {x0 x : zz_C} (hk : h[k]? = some x0) {H1 : Heap} (he : va_at D cl (B + k, zz_e B O dA x) H1) (z : H1.size = H.size) (oq : ∀ q : Nat, q ≠ B + k → H1[q]? = H[q]?) : zz_R D cl B O dA H0 (locs ++ [⟨B + k, i⟩]) (h.set k x) H1 := by
  refine hR.set ?_ (hR.2.1.put z oq (Nat.le_add_right B k)) z
  rw [← zz_w_set]
  exact hR.1.set (zz_wD B O dA h) (zz_w_at hk) he oq
theorem zz_tys_at {dA : Nat → ClassId} {t : Nat} (ht : t < 6) : (zz_tys dA)[t]? = some (dA t, zz_ty t) := by
  rcases (show t = 0 ∨ t = 1 ∨ t = 2 ∨ t = 3 ∨ t = 4 ∨ t = 5 by omega) with h | h | h | h | h | h <;> subst h <;> rfl
theorem zz_Rd.of (hK : va_K D cl (zz_tys dA) s) (hR : zz_R D cl B O dA H0 locs h H) (hX : zz_X s B O X H0) {a : Nat} {x : zz_C} (ha : zz_rd X h a = some x) (ht : ∀ t d, x = .inl (t, d) → a < zz_out → t < 6) : zz_Rd s B O H a x := by
  unfold zz_rd at ha
  split at ha
  · rename_i hlt
    obtain ⟨t, n, d⟩ | o := x
    · have ht := ht t (n, d) rfl hlt
      have hT := (hK.2 t _ (zz_tys_at ht)).1
      have hP := hR.1 a _ (zz_w_at ha)
      obtain f | f | f | f | f := d
      · exact ⟨_, (by rw [zz_a_in hlt]; exact hP), hT n (fun j => .int (f j)), (fun q => by cases q), ⟨Nat.le_of_eq (arrV_size _ _ _).symm, by rw [arrV_size]⟩, fun j hj => arrV_read _ _ hj⟩
      · exact ⟨_, (by rw [zz_a_in hlt]; exact hP), hT n (fun j => .long (f j)), (fun q => by cases q), ⟨Nat.le_of_eq (arrV_size _ _ _).symm, by rw [arrV_size]⟩, fun j hj => arrV_read _ _ hj⟩
      · exact ⟨_, (by rw [zz_a_in hlt]; exact hP), hT n (fun j => .float (f j)), (fun q => by cases q), ⟨Nat.le_of_eq (arrV_size _ _ _).symm, by rw [arrV_size]⟩, fun j hj => arrV_read _ _ hj⟩
      · exact ⟨_, (by rw [zz_a_in hlt]; exact hP), hT n (fun j => .double (f j)), (fun q => by cases q), ⟨Nat.le_of_eq (arrV_size _ _ _).symm, by rw [arrV_size]⟩, fun j hj => arrV_read _ _ hj⟩
      · exact ⟨_, (by rw [zz_a_in hlt]; exact hP), hT n (fun j => va_rf ((f j).map (zz_a B O))), (fun q => by cases q), ⟨Nat.le_of_eq (arrV_size _ _ _).symm, by rw [arrV_size]⟩, fun j hj => arrV_read _ _ hj⟩
    · trivial
  · rename_i hge
    obtain ⟨h1, h2⟩ := hX _ _ ha
    have hae : zz_out + (a - zz_out) = a := by omega
    rw [hae] at h1
    have haO : zz_a B O a = O (a - zz_out) := if_neg hge
    have hq : H[O (a - zz_out)]? = H0[O (a - zz_out)]? := hR.2.1.2.1 _ (Nat.lt_of_lt_of_le h2 hR.2.2.2.2) (Nat.not_le.mpr h2)
    obtain ⟨t, n, d⟩ | o := x
    · obtain ⟨cell, g1, g2⟩ := h1
      exact ⟨cell, by rw [haO, hq, ← haO]; exact g1, g2⟩
    · trivial
theorem zz_arrV_put {cI : ClassId} {n k : Nat} {g g2 : Nat → Value} {v : Value} {H1 : Heap} {a : Nat} (e : H1[a]? = some ((arrV cI n g).setSlot k v)) (hg : ∀ j, updV g k v j = g2 j) : H1[a]? = some (arrV cI n g2) := by
  rw [e, arrV_store]
  congr 2
  funext j
  exact hg j
theorem zz_iald_ok (hx : p.tables.exec = Jvm.exec) (hb : c.code = cc) (hK : va_K D cl (zz_tys dA) s) (hR : zz_R D cl B O dA H0 locs h H) (hX : zz_X s B O X H0)
    (hd : decode cc pc = .ok (.iaload, ln)) (hs : zz_iald X ln pc lv st h = some ((pc', lv', st'), h')) (kk : W p l e R s m args below meth c H locs cells slots Q (F0 m pc' ls (zz_s B O st'))) : W p l e R s m args below meth c H locs cells slots Q (F0 m pc ls (zz_s B O st)) ∧ lv' = lv ∧ h' = h := by
  unfold zz_iald at hs
  split at hs
  · rename_i i a r
    split at hs
    · rename_i t n f ha
      split at hs
      · rename_i e0
        obtain ⟨e0, e1, e2⟩ := e0
        subst e0; subst e1
        cases hs
        obtain ⟨cell, g1, g2, g3, g4, g5⟩ := zz_Rd.of hK hR hX ha (fun t d q _ => by cases q; omega)
        exact ⟨W.iald hx hb g1 g2 g3 (fun q => e2 (q.imp id (fun z => Nat.le_trans g4.1 z))) (g5 _ (Nat.not_le.mp fun q => e2 (Or.inr q))) rfl rfl hd kk, rfl, rfl⟩
      · cases hs
    · cases hs
  · cases hs
theorem zz_lald_ok (hx : p.tables.exec = Jvm.exec) (hb : c.code = cc) (hK : va_K D cl (zz_tys dA) s) (hR : zz_R D cl B O dA H0 locs h H) (hX : zz_X s B O X H0)
    (hd : decode cc pc = .ok (.laload, ln)) (hs : zz_lald X ln pc lv st h = some ((pc', lv', st'), h')) (kk : W p l e R s m args below meth c H locs cells slots Q (F0 m pc' ls (zz_s B O st'))) : W p l e R s m args below meth c H locs cells slots Q (F0 m pc ls (zz_s B O st)) ∧ lv' = lv ∧ h' = h := by
  unfold zz_lald at hs
  split at hs
  · rename_i i a r
    split at hs
    · rename_i t n f ha
      split at hs
      · rename_i e0
        obtain ⟨e0, e1, e2⟩ := e0
        subst e0; subst e1
        cases hs
        obtain ⟨cell, g1, g2, g3, g4, g5⟩ := zz_Rd.of hK hR hX ha (fun t d q _ => by cases q; omega)
        exact ⟨W.lald hx hb g1 g2 g3 (fun q => e2 (q.imp id (fun z => Nat.le_trans g4.1 z))) (g5 _ (Nat.not_le.mp fun q => e2 (Or.inr q))) rfl rfl hd kk, rfl, rfl⟩
      · cases hs
    · cases hs
  · cases hs
theorem zz_bald_ok (hx : p.tables.exec = Jvm.exec) (hb : c.code = cc) (hK : va_K D cl (zz_tys dA) s) (hR : zz_R D cl B O dA H0 locs h H) (hX : zz_X s B O X H0)
    (hd : decode cc pc = .ok (.baload, ln)) (hs : zz_bald X ln pc lv st h = some ((pc', lv', st'), h')) (kk : W p l e R s m args below meth c H locs cells slots Q (F0 m pc' ls (zz_s B O st'))) : W p l e R s m args below meth c H locs cells slots Q (F0 m pc ls (zz_s B O st)) ∧ lv' = lv ∧ h' = h := by
  unfold zz_bald at hs
  split at hs
  · rename_i i a r
    split at hs
    · rename_i t n f ha
      split at hs
      · rename_i e0
        obtain ⟨e0, e1, e2⟩ := e0
        subst e0
        cases hs
        obtain ⟨cell, g1, g2, g3, g4, g5⟩ := zz_Rd.of hK hR hX ha (fun t d q _ => by cases q; omega)
        rcases e1 with e1 | e1
        · subst e1
          exact ⟨W.bald hx hb g1 g2 g3 (fun q => e2 (q.imp id (fun z => Nat.le_trans g4.1 z))) (g5 _ (Nat.not_le.mp fun q => e2 (Or.inr q))) rfl rfl hd kk, rfl, rfl⟩
        · subst e1
          exact ⟨W.zald hx hb g1 g2 g3 (fun q => e2 (q.imp id (fun z => Nat.le_trans g4.1 z))) (g5 _ (Nat.not_le.mp fun q => e2 (Or.inr q))) rfl rfl hd kk, rfl, rfl⟩
      · cases hs
    · cases hs
  · cases hs
theorem zz_ty_ref {t : Nat} (h : 4 ≤ t) : (zz_ty t).isReference = true := by
  match t, h with
  | 4, _ => rfl
  | 5, _ => rfl
  | t + 6, _ => rfl
theorem zz_aald_ok (hx : p.tables.exec = Jvm.exec) (hb : c.code = cc) (hK : va_K D cl (zz_tys dA) s) (hR : zz_R D cl B O dA H0 locs h H) (hX : zz_X s B O X H0)
    (hd : decode cc pc = .ok (.aaload, ln)) (hs : zz_aald X ln pc lv st h = some ((pc', lv', st'), h')) (kk : W p l e R s m args below meth c H locs cells slots Q (F0 m pc' ls (zz_s B O st'))) : W p l e R s m args below meth c H locs cells slots Q (F0 m pc ls (zz_s B O st)) ∧ lv' = lv ∧ h' = h := by
  unfold zz_aald at hs
  split at hs
  · rename_i i a r
    split at hs
    · rename_i t n f ha
      split at hs
      · rename_i e0
        obtain ⟨e0, ⟨e1, e6⟩, e2⟩ := e0
        subst e0
        cases hs
        have h6 : a < zz_out → t < 6 := fun q => e6.elim id (fun z => absurd q z)
        obtain ⟨cell, g1, g2, g3, g4, g5⟩ := zz_Rd.of hK hR hX ha (fun t d q z => by cases q; exact h6 z)
        refine ⟨W.aald hx hb g1 g2 (zz_ty_ref e1) g3 (fun q => e2 (q.imp id (fun z => Nat.le_trans g4.1 z))) (g5 _ (Nat.not_le.mp fun q => e2 (Or.inr q))) rfl rfl hd ?_, rfl, rfl⟩
        have kk : W p l e R s m args below meth c H locs cells slots Q (F0 m (pc + 1) ls (zz_v B O (zz_rv (f i.toNatClampNeg)) :: zz_s B O r)) := kk
        rw [zz_rv_v] at kk
        exact kk
      · cases hs
    · cases hs
  · cases hs
theorem zz_alen_ok (hx : p.tables.exec = Jvm.exec) (hb : c.code = cc) (hK : va_K D cl (zz_tys dA) s) (hR : zz_R D cl B O dA H0 locs h H) (hX : zz_X s B O X H0)
    (hd : decode cc pc = .ok (.arraylength, ln)) (hs : zz_alen X ln pc lv st h = some ((pc', lv', st'), h')) (kk : W p l e R s m args below meth c H locs cells slots Q (F0 m pc' ls (zz_s B O st'))) : W p l e R s m args below meth c H locs cells slots Q (F0 m pc ls (zz_s B O st)) ∧ lv' = lv ∧ h' = h := by
  unfold zz_alen at hs
  split at hs
  · rename_i a r
    split at hs
    · rename_i t n f ha
      split at hs
      · rename_i e0
        obtain ⟨e0, e6⟩ := e0
        subst e0
        cases hs
        have h6 : a < zz_out → t < 6 := fun q => e6.elim id (fun z => absurd q z)
        obtain ⟨cell, g1, g2, g3, g4, g5⟩ := zz_Rd.of hK hR hX ha (fun t d q z => by cases q; exact h6 z)
        exact ⟨W.alen (n := Int32.ofNat n) hx hb g1 g2 (by first | exact g4.2 | exact g4.2.symm) rfl rfl hd kk, rfl, rfl⟩
      · cases hs
    · cases hs
  · cases hs
theorem zz_iast_ok (hx : p.tables.exec = Jvm.exec) (hb : c.code = cc) (hK : va_K D cl (zz_tys dA) s) (hR : zz_R D cl B O dA H0 locs h H)
    (hd : decode cc pc = .ok (.iastore, ln)) (hs : zz_iast ln pc lv st h = some ((pc', lv', st'), h')) (kk : ∀ (H1 : Heap) (locs1 : List Loc), zz_R D cl B O dA H0 locs1 h' H1 → W p l e R s m args below meth c H1 locs1 cells slots Q (F0 m pc' ls (zz_s B O st'))) : W p l e R s m args below meth c H locs cells slots Q (F0 m pc ls (zz_s B O st)) ∧ lv' = lv := by
  unfold zz_iast at hs
  split at hs
  · rename_i x i a r
    split at hs
    · rename_i t n f ha
      split at hs
      · rename_i e0
        obtain ⟨e0, e1, e2⟩ := e0
        subst e0; subst e1
        cases hs
        obtain ⟨ha1, ha2⟩ := zz_at_ok ha
        refine ⟨?_, rfl⟩
        show W p l e R s m args below meth c H locs cells slots Q (F0 m pc ls (.int x :: .int i :: .ref (zz_a B O a) :: zz_s B O st'))
        rw [zz_a_in ha1]
        refine W.iast hx hb (hR.1 a _ (zz_w_at ha2)) ((hK.2 0 _ rfl).1 n (fun j => .int (f j))) (fun q => by cases q) (by show ¬ (i < 0 ∨ (arrV _ _ _).slots.size ≤ _); rw [arrV_size]; exact e2) rfl rfl hd fun H1 e z oq => kk H1 _ (hR.put ha2 ?_ z oq)
        exact zz_arrV_put (g2 := fun j => .int (upd f i.toNatClampNeg x j)) e (fun j => by unfold updV upd; split <;> rfl)
      · cases hs
    · cases hs
  · cases hs
theorem zz_last_ok (hx : p.tables.exec = Jvm.exec) (hb : c.code = cc) (hK : va_K D cl (zz_tys dA) s) (hR : zz_R D cl B O dA H0 locs h H)
    (hd : decode cc pc = .ok (.lastore, ln)) (hs : zz_last ln pc lv st h = some ((pc', lv', st'), h')) (kk : ∀ (H1 : Heap) (locs1 : List Loc), zz_R D cl B O dA H0 locs1 h' H1 → W p l e R s m args below meth c H1 locs1 cells slots Q (F0 m pc' ls (zz_s B O st'))) : W p l e R s m args below meth c H locs cells slots Q (F0 m pc ls (zz_s B O st)) ∧ lv' = lv := by
  unfold zz_last at hs
  split at hs
  · rename_i x i a r
    split at hs
    · rename_i t n f ha
      split at hs
      · rename_i e0
        obtain ⟨e0, e1, e2⟩ := e0
        subst e0; subst e1
        cases hs
        obtain ⟨ha1, ha2⟩ := zz_at_ok ha
        refine ⟨?_, rfl⟩
        show W p l e R s m args below meth c H locs cells slots Q (F0 m pc ls (.long x :: .int i :: .ref (zz_a B O a) :: zz_s B O st'))
        rw [zz_a_in ha1]
        refine W.last hx hb (hR.1 a _ (zz_w_at ha2)) ((hK.2 1 _ rfl).1 n (fun j => .long (f j))) (fun q => by cases q) (by show ¬ (i < 0 ∨ (arrV _ _ _).slots.size ≤ _); rw [arrV_size]; exact e2) rfl rfl hd fun H1 e z oq => kk H1 _ (hR.put ha2 ?_ z oq)
        exact zz_arrV_put (g2 := fun j => .long (vp_updL f i.toNatClampNeg x j)) e (fun j => by unfold updV vp_updL; split <;> rfl)
      · cases hs
    · cases hs
  · cases hs
theorem zz_bast_ok (hx : p.tables.exec = Jvm.exec) (hb : c.code = cc) (hK : va_K D cl (zz_tys dA) s) (hR : zz_R D cl B O dA H0 locs h H)
    (hd : decode cc pc = .ok (.bastore, ln)) (hs : zz_bast ln pc lv st h = some ((pc', lv', st'), h')) (kk : ∀ (H1 : Heap) (locs1 : List Loc), zz_R D cl B O dA H0 locs1 h' H1 → W p l e R s m args below meth c H1 locs1 cells slots Q (F0 m pc' ls (zz_s B O st'))) : W p l e R s m args below meth c H locs cells slots Q (F0 m pc ls (zz_s B O st)) ∧ lv' = lv := by
  unfold zz_bast at hs
  split at hs
  · rename_i x i a r
    split at hs
    · rename_i t n f ha
      split at hs
      · rename_i e0
        obtain ⟨e0, e1, e2⟩ := e0
        subst e0
        cases hs
        obtain ⟨ha1, ha2⟩ := zz_at_ok ha
        refine ⟨?_, rfl⟩
        show W p l e R s m args below meth c H locs cells slots Q (F0 m pc ls (.int x :: .int i :: .ref (zz_a B O a) :: zz_s B O st'))
        rw [zz_a_in ha1]
        rcases e1 with e1 | e1
        · subst e1
          refine W.bast hx hb (hR.1 a _ (zz_w_at ha2)) ((hK.2 2 _ rfl).1 n (fun j => .int (f j))) (fun q => by cases q) (by show ¬ (i < 0 ∨ (arrV _ _ _).slots.size ≤ _); rw [arrV_size]; exact e2) rfl rfl hd fun H1 e z oq => kk H1 _ (hR.put ha2 ?_ z oq)
          exact zz_arrV_put (g2 := fun j => .int (upd f i.toNatClampNeg (vp_nar (zz_ty 2) x) j)) e (fun j => by unfold updV upd; split <;> rfl)
        · subst e1
          refine W.zast hx hb (hR.1 a _ (zz_w_at ha2)) ((hK.2 3 _ rfl).1 n (fun j => .int (f j))) (fun q => by cases q) (by show ¬ (i < 0 ∨ (arrV _ _ _).slots.size ≤ _); rw [arrV_size]; exact e2) rfl rfl hd fun H1 e z oq => kk H1 _ (hR.put ha2 ?_ z oq)
          exact zz_arrV_put (g2 := fun j => .int (upd f i.toNatClampNeg (vp_nar (zz_ty 3) x) j)) e (fun j => by unfold updV upd; split <;> rfl)
      · cases hs
    · cases hs
  · cases hs
end ZA
