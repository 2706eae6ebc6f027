/-! ===== arrays of objects, constants ===== -/
def zz_ldc (v : Int32) (ln pc : Nat) (lv : List (Nat × Value)) (st : List Value) : Option zz_F := if ln = 2 then some (pc + 2, lv, .int v :: st) else none
def zz_ldcw (v : Int32) (ln pc : Nat) (lv : List (Nat × Value)) (st : List Value) : Option zz_F := if ln = 3 then some (pc + 3, lv, .int v :: st) else none
def zz_ldc2 (v : Int64) (ln pc : Nat) (lv : List (Nat × Value)) (st : List Value) : Option zz_F := if ln = 3 then some (pc + 3, lv, .long v :: st) else none
section ZQ
variable {p : Program} {l : Launch} {e : Env} {R : Room} {s : State} {m : MethodId} {args : Array Value} {below : List Frame} {meth : Method} {c : Code} {H : Heap} {locs : List Loc} {cells slots : Nat} {Q : State → Prop}
variable {cc : ByteArray} {B : Nat} {O : Nat → Nat} {D : va_G} {cl : List vw_C} {dA : Nat → ClassId} {H0 : Heap} {h h' : zz_H} {Ts : List Cond} {own : String} {tf : Nat → Nat → FieldType} {X : Nat → Option zz_C}
variable {ln pc pc' : Nat} {lv lv' : List (Nat × Value)} {st st' : List Value} {ls : Array Slot}
theorem zz_ldc_ok (hx : p.tables.exec = Jvm.exec) (hb : c.code = cc) (hts : ∀ w ∈ Ts, w.before args s = true) (hown : s.vm.findClass own = some m.cls) {index : Nat} {v : Int32} (hw : Cond.constant own index v ∈ Ts) (hd : decode cc pc = .ok (.ldc index, ln)) (hs : zz_ldc v ln pc lv st = some (pc', lv', st'))
    (kk : W p l e R s m args below meth c H locs cells slots Q (F0 m pc' ls (zz_s B O st'))) : W p l e R s m args below meth c H locs cells slots Q (F0 m pc ls (zz_s B O st)) ∧ lv' = lv := by
  unfold zz_ldc at hs
  split at hs
  · rename_i e0
    subst e0
    cases hs
    exact ⟨lv_ldc hx hb hown (hts _ hw) hd kk, rfl⟩
  · cases hs
theorem zz_ldcw_ok (hx : p.tables.exec = Jvm.exec) (hb : c.code = cc) (hts : ∀ w ∈ Ts, w.before args s = true) (hown : s.vm.findClass own = some m.cls) {index : Nat} {v : Int32} (hw : Cond.constant own index v ∈ Ts) (hd : decode cc pc = .ok (.ldc_w index, ln)) (hs : zz_ldcw v ln pc lv st = some (pc', lv', st'))
    (kk : W p l e R s m args below meth c H locs cells slots Q (F0 m pc' ls (zz_s B O st'))) : W p l e R s m args below meth c H locs cells slots Q (F0 m pc ls (zz_s B O st)) ∧ lv' = lv := by
  unfold zz_ldcw at hs
  split at hs
  · rename_i e0
    subst e0
    cases hs
    exact ⟨lv_ldcw hx hb hown (hts _ hw) hd kk, rfl⟩
  · cases hs
theorem zz_ldc2_ok (hx : p.tables.exec = Jvm.exec) (hb : c.code = cc) (hts : ∀ w ∈ Ts, w.before args s = true) (hown : s.vm.findClass own = some m.cls) {index : Nat} {v : Int64} (hw : Cond.constantLong own index v ∈ Ts) (hd : decode cc pc = .ok (.ldc2_w index, ln)) (hs : zz_ldc2 v ln pc lv st = some (pc', lv', st'))
    (kk : W p l e R s m args below meth c H locs cells slots Q (F0 m pc' ls (zz_s B O st'))) : W p l e R s m args below meth c H locs cells slots Q (F0 m pc ls (zz_s B O st)) ∧ lv' = lv := by
  unfold zz_ldc2 at hs
  split at hs
  · rename_i e0
    subst e0
    cases hs
    exact ⟨lv_ldc2 hx hb hown (hts _ hw) hd kk, rfl⟩
  · cases hs
theorem zz_anew_ok (hx : p.tables.exec = Jvm.exec) (hb : c.code = cc) (hts : ∀ w ∈ Ts, w.before args s = true) (hown : s.vm.findClass own = some m.cls) (hK : va_K D cl (zz_tys dA) s) (hR : zz_R D cl B O dA H0 locs h H) {index : Nat} (hcl : Cond.classLink own index "TallySlate$Shelves" ∈ Ts) (hover : va_AO "TallySlate$Shelves" s)
    (hd : decode cc pc = .ok (.anewarray index, ln)) (hs : zz_anew ln pc lv st h = some ((pc', lv', st'), h')) (hcells : cells + 1 ≤ R.cells) {ns : Nat} (hns : ∀ x, h' = h ++ [x] → zz_sz (fun _ => 0) x = ns) (hslots : slots + ns ≤ R.slots)
    (kk : ∀ (H1 : Heap), zz_R D cl B O dA H0 locs h' H1 → W p l e R s m args below meth c H1 locs (cells + 1) (slots + ns) Q (F0 m pc' ls (zz_s B O st'))) : W p l e R s m args below meth c H locs cells slots Q (F0 m pc ls (zz_s B O st)) ∧ lv' = lv := by
  unfold zz_anew at hs
  split at hs
  · rename_i n r
    split at hs
    · rename_i e0
      obtain ⟨e0, e1, e2, e3⟩ := e0
      subst e0
      cases hs
      have hns := hns _ rfl
      have hns : n.toNatClampNeg = ns := hns
      subst hns
      refine ⟨?_, rfl⟩
      refine W.anew hx hb hown (hts _ hcl) (va_AO.use hover) rfl hd rfl e1 (by omega) hcells hslots fun cA kA comp f1 f2 f3 f4 => ?_
      generalize hH1 : H.push ({ cls := cA, slots := Array.replicate n.toNatClampNeg .null, vm := .none } : Cell) = H1
      have z1 : H1.size = H.size + 1 := by rw [← hH1, Array.size_push]
      have g1 : H1[H.size]? = some (arrV cA n.toNatClampNeg (fun _ => .null)) := by rw [← hH1, Array.getElem?_push_size, ← arrV_new]
      have o1 : ∀ q : Nat, q < H.size → H1[q]? = H[q]? := fun q hq => by rw [← hH1, Array.getElem?_push, if_neg (Nat.ne_of_lt hq)]
      obtain ⟨kB, compB, -, -, -, k4⟩ := (hK.2 4 _ rfl).2
      have e9 : cA = dA 4 := Option.some.inj (f1.symm.trans k4)
      subst e9
      have hz : zz_s B O (.ref h.length :: r) = .ref (B + h.length) :: zz_s B O r := by
        show Value.ref (zz_a B O h.length) :: _ = _
        rw [zz_a_in e3]; rfl
      have := kk H1 (hR.push e3 (by rw [← hR.2.2.1]; exact g1) z1 o1)
      rw [hz, ← hR.2.2.1] at this
      exact this
    · cases hs
  · cases hs
theorem zz_aast_ok (hx : p.tables.exec = Jvm.exec) (hb : c.code = cc) (hK : va_K D cl (zz_tys dA) s) (hR : zz_R D cl B O dA H0 locs h H) {q7 : vw_C} (hc7 : cl[7]? = some q7) (hq7 : q7.1 = "TallySlate$Shelves")
    (hd : decode cc pc = .ok (.aastore, ln)) (hs : zz_aast ln pc lv st h = some ((pc', lv', st'), h')) (kk : ∀ (H1 : Heap) (locs1 : List Loc), zz_R D cl B O dA H0 locs1 h' H1 → W p l e R s m args below meth c H1 locs1 cells slots Q (F0 m pc' ls (zz_s B O st'))) : W p l e R s m args below meth c H locs cells slots Q (F0 m pc ls (zz_s B O st)) ∧ lv' = lv := by
  unfold zz_aast at hs
  split at hs
  · rename_i v i a r
    split at hs
    · rename_i n f cj fs ha hv
      split at hs
      · rename_i e0
        obtain ⟨e0, e1, e2⟩ := e0
        subst e0; subst e1
        cases hs
        obtain ⟨ha1, ha2⟩ := zz_at_ok ha
        obtain ⟨hv1, hv2⟩ := zz_at_ok hv
        refine ⟨?_, rfl⟩
        show W p l e R s m args below meth c H locs cells slots Q (F0 m pc ls (.ref (zz_a B O v) :: .int i :: .ref (zz_a B O a) :: zz_s B O st'))
        rw [zz_a_in ha1, zz_a_in hv1]
        obtain ⟨r', hr', cellV, g1, g2, g3, -⟩ := hR.1 v _ (zz_w_at hv2)
        have hcls := (hK.1 7 q7 hc7).2
        obtain ⟨kA, comp, k1, k2, k3, -⟩ := (hK.2 4 _ rfl).2
        have hcomp : comp = D.1 7 := Option.some.inj (k3.symm.trans (by rw [← hq7]; exact hcls.1))
        subst hcomp
        obtain ⟨kC, hkC, -⟩ := hcls.2
        refine W.aast hx hb (hR.1 a _ (zz_w_at ha2)) (fun q h => by cases h) (fun h => by cases h) k1 k2 rfl hkC ⟨fun z => e2 (Or.inl z), by show _ < (arrV _ _ _).slots.size; rw [arrV_size]; exact Nat.not_le.mp fun z => e2 (Or.inr z)⟩ g1 (fun q h => by rw [g3] at h; cases h) (by rw [g2]; exact hkC) (by rw [g2]; exact va_assign hcls) rfl rfl hd fun H1 e z oq => kk H1 _ (hR.put ha2 ?_ z oq)
        refine zz_arrV_put (g2 := fun j => va_rf ((va_up f i.toNatClampNeg (some v) j).map (zz_a B O))) e (fun j => ?_)
        by_cases hq : j = i.toNatClampNeg
        · subst hq
          simp [updV, va_up, va_rf, zz_a_in hv1]
        · simp [updV, va_up, hq]
      · cases hs
    · cases hs
  · cases hs
end ZQ
