/-! ===== outside: statics, enum constants, Strings ===== -/
/-- classes of objects outside, by number: 20 the enum, others String -/
def zx_cn : Nat → String := fun c => if c = 20 then "TallySlate$Word" else if c = 1005 ∨ c = 2005 then "TallySlate$Parser" else "java/lang/String"
/-- their fields that are read: owner, name, descriptor -/
def zx_fd : Nat → Nat → String × String × String := fun c k =>
  if c = 20 then (if k = 0 then ("TallySlate$Word", "code", "J") else if k = 1 then ("TallySlate$Word", "least", "I") else if k = 2 then ("TallySlate$Word", "most", "I") else ("java/lang/Enum", "ordinal", "I"))
  else (if k = 0 then ("java/lang/String", "value", "[B") else ("java/lang/String", "coder", "B"))
/-- the statics that are read: class, name, descriptor, what they hold (cells outside: 0 the script, 1 to 41 the enum's constants, 42 their array, 43 the switch's map, 44 to 46 Strings, 47 to 49 their bytes) -/
def zx_S : List (String × String × String × Value) := [("TallySlate$1", "$SwitchMap$TallySlate$Word", "[I", .ref (zz_out + 43)), ("TallySlate$Word", "ALL", "[LTallySlate$Word;", .ref (zz_out + 42)), ("java/lang/String", "COMPACT_STRINGS", "Z", .int 1),
  ("TallySlate$Word", "FN", "LTallySlate$Word;", .ref (zz_out + 1)), ("TallySlate$Word", "ELSE", "LTallySlate$Word;", .ref (zz_out + 3)), ("TallySlate$Word", "IN", "LTallySlate$Word;", .ref (zz_out + 6)), ("TallySlate$Word", "ON", "LTallySlate$Word;", .ref (zz_out + 11)),
  ("TallySlate$Word", "BOX", "LTallySlate$Word;", .ref (zz_out + 17)), ("TallySlate$Word", "SUM", "LTallySlate$Word;", .ref (zz_out + 21)), ("TallySlate$Word", "MAX", "LTallySlate$Word;", .ref (zz_out + 22)), ("TallySlate$Word", "SORT", "LTallySlate$Word;", .ref (zz_out + 25)),
  ("TallySlate$Word", "EACH", "LTallySlate$Word;", .ref (zz_out + 40)), ("TallySlate$Word", "FOLD", "LTallySlate$Word;", .ref (zz_out + 41))]
/-- the String constants that are loaded: class, entry, text, cell outside -/
def zx_K : List (String × Nat × String × Nat) := [("TallySlate$Tokens", 65, "{}()[];,=<>+-*/%&|!", 44), ("TallySlate$Tokens", 73, "=!<>", 45), ("TallySlate$Parser", 276, "a fault", 46)]
def zz_Y (B : Nat) (O : Nat → Nat) (X : Nat → Option zz_C) (s : State) (H0 : Heap) : Prop :=
  (∀ (j ci : Nat) (fs : List Value), X j = some (.inr (ci, fs)) → va_O (zx_cn ci) (O j) (fun q => B ≤ q) s H0 ∧ ∀ (k : Nat) (v : Value), fs[k]? = some v → va_OF (zx_fd ci k).1 (zx_fd ci k).2.1 (zx_fd ci k).2.2 (zz_v B O v) (O j) (fun q => B ≤ q) s H0) ∧
  (∀ q ∈ zx_S, va_Z q.1 q.2.1 q.2.2.1 (zz_v B O q.2.2.2) (fun q => B ≤ q) s H0) ∧
  (∀ i j, 0 < i → i ≤ 41 → 0 < j → j ≤ 41 → O i = O j → i = j) ∧
  (∀ q ∈ zx_K, vk_R q.1 q.2.1 q.2.2.1 (O q.2.2.2) s) ∧
  (vx_Zq Bundle.tN "UNASSIGNED_STACK" Bundle.steD (fun q => B ≤ q) s H0 ∧ vx_Zq Bundle.tN "SUPPRESSED_SENTINEL" Bundle.listD (fun q => B ≤ q) s H0)
theorem zz_Y.kept {B : Nat} {O : Nat → Nat} {X : Nat → Option zz_C} {s : State} {H0 H : Heap} (h : zz_Y B O X s H0) (hk : ∀ q : Nat, q < B → H[q]? = H0[q]?) : zz_Y B O X s H := by
  have hq : ∀ a : Nat, a < H0.size → ¬ B ≤ a → H[a]? = H0[a]? := fun a _ h2 => hk a (Nat.not_le.mp h2)
  obtain ⟨h1, h2, h3, h4, h5, h6⟩ := h
  exact ⟨fun j ci fs hx => ⟨(h1 j ci fs hx).1.kept hq, fun k v hv => ((h1 j ci fs hx).2 k v hv).kept hq⟩, fun q hm => (h2 q hm).kept hq, h3, h4, h5.kept hq, h6.kept hq⟩
theorem zz_Y.warm {B : Nat} {O : Nat → Nat} {X : Nat → Option zz_C} {s U : State} {H : Heap} (hW : s.WarmedH U.vm) (h : zz_Y B O X s H) : zz_Y B O X U H := by
  obtain ⟨h1, h2, h3, h4, h5, h6⟩ := h
  exact ⟨fun j ci fs hx => ⟨va_O.moved hW.alike (h1 j ci fs hx).1, fun k v hv => va_OF.moved hW.alike ((h1 j ci fs hx).2 k v hv)⟩, fun q hm => va_Z.moved hW.alike (h2 q hm), h3, fun q hm => vk_R.warm hW (h4 q hm), vx_Zq.moved hW.alike h5, vx_Zq.moved hW.alike h6⟩
theorem zz_Y.same {B : Nat} {O : Nat → Nat} {X : Nat → Option zz_C} {s U : State} {H : Heap} (hv : U.vm = s.vm) (h : zz_Y B O X s H) : zz_Y B O X U H := by
  have hA : s.vm.Alike U.vm := by rw [hv]; exact Vm.Alike.refl s.vm
  obtain ⟨h1, h2, h3, h4, h5, h6⟩ := h
  exact ⟨fun j ci fs hx => ⟨va_O.moved hA (h1 j ci fs hx).1, fun k v hv => va_OF.moved hA ((h1 j ci fs hx).2 k v hv)⟩, fun q hm => va_Z.moved hA (h2 q hm), h3, fun q hm => vk_R.same hv (h4 q hm), vx_Zq.moved hA h5, vx_Zq.moved hA h6⟩
def zz_gets (k ln pc : Nat) (lv : List (Nat × Value)) (st : List Value) (h : zz_H) : Option (zz_F × zz_H) := match zx_S[k]? with
  | some q => if ln = 3 then some ((pc + 3, lv, q.2.2.2 :: st), h) else none
  | none => none
def zz_getx (X : Nat → Option zz_C) (ci k ln pc : Nat) (lv : List (Nat × Value)) (st : List Value) (h : zz_H) : Option (zz_F × zz_H) := match st with
  | .ref a :: r => if a < zz_out then none else match X (a - zz_out) with
    | some (.inr (cj, fs)) => match fs[k]? with
      | some v => if ln = 3 ∧ cj = ci then some ((pc + 3, lv, v :: r), h) else none
      | none => none
    | _ => none
  | _ => none
def zz_ac : ClassFile.ACond → Nat → Nat → Bool
  | .eq, x, y => decide (x = y)
  | .ne, x, y => !decide (x = y)
def zz_acmp (c : ClassFile.ACond) (off : Int) (ln pc : Nat) (lv : List (Nat × Value)) (st : List Value) : Option zz_F := match st with
  | .ref y :: .ref x :: r => if ln = 3 ∧ (zz_out < x ∧ x ≤ zz_out + 41) ∧ zz_out < y ∧ y ≤ zz_out + 41 then zz_jump (zz_ac c x y) off pc lv r else none
  | _ => none
def zz_ldcs (k ln pc : Nat) (lv : List (Nat × Value)) (st : List Value) : Option zz_F := match zx_K[k]? with
  | some q => if ln = 2 then some (pc + 2, lv, .ref (zz_out + q.2.2.2) :: st) else none
  | none => none
theorem zz_a_x {B : Nat} {O : Nat → Nat} (j : Nat) : zz_a B O (zz_out + j) = O j := by
  unfold zz_a
  rw [if_neg (by omega), Nat.add_sub_cancel_left]
theorem zz_out_inj {B : Nat} {O : Nat → Nat} (hO : ∀ i j, 0 < i → i ≤ 41 → 0 < j → j ≤ 41 → O i = O j → i = j) {x y : Nat} (hx : zz_out < x ∧ x ≤ zz_out + 41) (hy : zz_out < y ∧ y ≤ zz_out + 41) (q : zz_a B O x = zz_a B O y) : x = y := by
  obtain ⟨i, rfl⟩ : ∃ i, x = zz_out + i := ⟨x - zz_out, by omega⟩
  obtain ⟨j, rfl⟩ : ∃ j, y = zz_out + j := ⟨y - zz_out, by omega⟩
  rw [zz_a_x, zz_a_x] at q
  rw [hO i j (by omega) (by omega) (by omega) (by omega) q]
section ZY
variable {p : Program} {l : Launch} {e : Env} {R : Room} {s : State} {m : MethodId} {args : Array Value} {below : List Frame} {meth : Method} {c : Code} {H : Heap} {locs : List Loc} {cells slots : Nat} {Q : State → Prop}
variable {cc : ByteArray} {B : Nat} {O : Nat → Nat} {D : va_G} {cl : List vw_C} {dA : Nat → ClassId} {H0 : Heap} {h h' : zz_H} {Ts NW : List Cond} {own : String} {tf : Nat → Nat → FieldType} {X : Nat → Option zz_C}
variable {ln pc pc' : Nat} {lv lv' : List (Nat × Value)} {st st' : List Value} {ls : Array Slot}
theorem zz_gets_ok (hx : p.tables.exec = Jvm.exec) (hb : c.code = cc) (hown : s.vm.findClass own = some m.cls) (hY : zz_Y B O X s s.heap) (hR : zz_R D cl B O dA s.heap locs h H) {k index : Nat} {q : String × String × String × Value} (hq : zx_S[k]? = some q) (hlink : (Cond.fieldLink own index q.1 q.2.1 q.2.2.1).before args s = true)
    (hd : decode cc pc = .ok (.getstatic index, ln)) (hs : zz_gets k ln pc lv st h = some ((pc', lv', st'), h'))
    (kk : W p l e R s m args below meth c H locs cells slots Q (F0 m pc' ls (zz_s B O st'))) : W p l e R s m args below meth c H locs cells slots Q (F0 m pc ls (zz_s B O st)) ∧ lv' = lv ∧ h' = h := by
  unfold zz_gets at hs
  rw [hq] at hs
  dsimp only at hs
  split at hs
  · rename_i e0
    subst e0
    cases hs
    refine ⟨?_, rfl, rfl⟩
    exact va_gets (A := fun q => B ≤ q) hx hb (hY.2.1 q (List.mem_of_getElem? hq)) hR.2.1 hown hlink (fun _ h9 => h9) hd kk
  · cases hs
theorem zz_getx_ok (hx : p.tables.exec = Jvm.exec) (hb : c.code = cc) (hown : s.vm.findClass own = some m.cls) (hY : zz_Y B O X s s.heap) (hR : zz_R D cl B O dA s.heap locs h H) {ci k index : Nat} (hlink : (Cond.fieldLink own index (zx_fd ci k).1 (zx_fd ci k).2.1 (zx_fd ci k).2.2).before args s = true ∨ ∃ host, (Cond.fieldLinkNest own index (zx_fd ci k).1 (zx_fd ci k).2.1 (zx_fd ci k).2.2 host).before args s = true)
    (hd : decode cc pc = .ok (.getfield index, ln)) (hs : zz_getx X ci k ln pc lv st h = some ((pc', lv', st'), h'))
    (kk : W p l e R s m args below meth c H locs cells slots Q (F0 m pc' ls (zz_s B O st'))) : W p l e R s m args below meth c H locs cells slots Q (F0 m pc ls (zz_s B O st)) ∧ lv' = lv ∧ h' = h := by
  unfold zz_getx at hs
  split at hs
  · rename_i a r
    split at hs
    · cases hs
    · rename_i hge
      split at hs
      · rename_i cj fs hxa
        split at hs
        · rename_i v hv
          split at hs
          · rename_i e0
            obtain ⟨e0, e1⟩ := e0
            subst e0; subst e1
            cases hs
            refine ⟨?_, rfl, rfl⟩
            have haO : zz_a B O a = O (a - zz_out) := if_neg hge
            show W p l e R s m args below meth c H locs cells slots Q (F0 m pc ls (.ref (zz_a B O a) :: zz_s B O r))
            rw [haO]
            have hE := (hY.1 _ _ _ hxa).2 k v hv
            rcases hlink with hlink | ⟨host, hlink⟩
            · exact vk_getf (A := fun q => B ≤ q) hx hb hE hR.2.1 hown hlink (fun _ h9 => h9) hd kk
            · obtain ⟨cf, k9, fi, f, cell, h1, h2, h3, h4, h5, h6⟩ := hE.kept hR.2.1.2.1
              exact va_Wgetf hx hb hown hlink h1 h2 h3 h4 (v := zz_v B O v) h5 rfl rfl hd kk
          · cases hs
        · cases hs
      · cases hs
  · cases hs
theorem zz_acmp_ok (hx : p.tables.exec = Jvm.exec) (hb : c.code = cc) (hY : zz_Y B O X s s.heap) {cd : ClassFile.ACond} {off : Int}
    (hd : decode cc pc = .ok (.if_acmp cd off, ln)) (hs : zz_acmp cd off ln pc lv st = some (pc', lv', st'))
    (kk : W p l e R s m args below meth c H locs cells slots Q (F0 m pc' ls (zz_s B O st'))) : W p l e R s m args below meth c H locs cells slots Q (F0 m pc ls (zz_s B O st)) ∧ lv' = lv := by
  unfold zz_acmp at hs
  split at hs
  · rename_i y x r
    split at hs
    · rename_i e0
      obtain ⟨e0, ⟨x1, x2⟩, y1, y2⟩ := e0
      subst e0
      have hinj : some (zz_a B O x) = some (zz_a B O y) ↔ x = y := by
        constructor
        · intro q
          have q := Option.some.inj q
          exact zz_out_inj hY.2.2.1 ⟨x1, x2⟩ ⟨y1, y2⟩ q
        · intro q
          rw [q]
      have hto : ∀ t : Nat, 0 ≤ (pc : Int) + off → zz_to pc off = t → (pc : Int) + off = (t : Int) := fun t h1 h2 => by
        unfold zz_to at h2
        omega
      have hb0 : 0 ≤ (pc : Int) + off ∧ lv' = lv ∧ st' = r ∧ pc' = (if zz_ac cd x y = true then zz_to pc off else pc + 3) := by
        unfold zz_jump at hs
        split at hs
        · rename_i hb9
          split at hs
          · rename_i h0; cases hs; exact ⟨h0, rfl, rfl, by rw [if_pos hb9]⟩
          · cases hs
        · rename_i hb9
          split at hs
          · rename_i h0; cases hs; exact ⟨h0, rfl, rfl, by rw [if_neg (by rw [hb9]; decide)]⟩
          · cases hs
      obtain ⟨h0, rfl, rfl, hpc⟩ := hb0
      refine ⟨?_, rfl⟩
      show W p l e R s m args below meth c H locs cells slots Q (F0 m pc ls (va_rf (some (zz_a B O y)) :: va_rf (some (zz_a B O x)) :: zz_s B O st'))
      cases cd
      · refine lv_acmp_eq hx hb hd (hto _ h0 rfl) (fun q => ?_) (fun q => ?_)
        · have q := hinj.mp q
          rw [if_pos (by simp [zz_ac, q])] at hpc
          rw [← hpc]
          exact kk
        · have q : ¬ x = y := fun z => q (hinj.mpr z)
          rw [if_neg (by simp [zz_ac, q])] at hpc
          rw [← hpc]
          exact kk
      · refine lv_acmp_ne hx hb hd (hto _ h0 rfl) (fun q => ?_) (fun q => ?_)
        · have q : ¬ x = y := fun z => q (hinj.mpr z)
          rw [if_pos (by simp [zz_ac, q])] at hpc
          rw [← hpc]
          exact kk
        · have q : x = y := hinj.mp q
          rw [if_neg (by simp [zz_ac, q])] at hpc
          rw [← hpc]
          exact kk
    · cases hs
  · cases hs
theorem zz_ldcs_ok (hx : p.tables.exec = Jvm.exec) (hb : c.code = cc) (hown : s.vm.findClass own = some m.cls) (hY : zz_Y B O X s s.heap) {k index : Nat} {q : String × Nat × String × Nat} (hq : zx_K[k]? = some q) (h1 : q.1 = own) (h2 : q.2.1 = index)
    (hd : decode cc pc = .ok (.ldc index, ln)) (hs : zz_ldcs k ln pc lv st = some (pc', lv', st'))
    (kk : W p l e R s m args below meth c H locs cells slots Q (F0 m pc' ls (zz_s B O st'))) : W p l e R s m args below meth c H locs cells slots Q (F0 m pc ls (zz_s B O st)) ∧ lv' = lv := by
  unfold zz_ldcs at hs
  rw [hq] at hs
  dsimp only at hs
  split at hs
  · rename_i e0
    subst e0
    cases hs
    refine ⟨?_, rfl⟩
    have hZ := hY.2.2.2.1 q (List.mem_of_getElem? hq)
    rw [h1, h2] at hZ
    refine va_ldcS hx hb hown hZ hd ?_
    have := kk
    show W p l e R s m args below meth c H locs cells slots Q (F0 m (pc + 2) ls (.ref (O q.2.2.2) :: zz_s B O st))
    rw [← zz_a_x (B := B) (O := O) q.2.2.2]
    exact kk
  · cases hs
end ZY
