/-! ===== new int[n][m]; System.arraycopy ===== -/
def zz_mna (ln pc : Nat) (lv : List (Nat × Value)) (st : List Value) (h : zz_H) : Option (zz_F × zz_H) := match st with
  | .int k :: .int n :: r => if ln = 4 ∧ ¬ n < 0 ∧ ¬ k < 0 ∧ n.toNatClampNeg ≤ 1000 ∧ k.toNatClampNeg ≤ 1000 ∧ h.length + 1 + n.toNatClampNeg ≤ zz_out then some ((pc + 4, lv, .ref h.length :: r), h ++ (.inl (5, n.toNatClampNeg, .inr (.inr (.inr (.inr fun i => if i < n.toNatClampNeg then some (h.length + 1 + i) else none)))) :: List.replicate n.toNatClampNeg (.inl (0, k.toNatClampNeg, .inl fun _ => 0)))) else none
  | _ => none
def zz_cats (st : List Value) : Nat := (st.map fun v => v.category).sum
/-- bytes alone -/
def zz_bts (f : Nat → Int32) (a n : Nat) : Bool := (List.range n).all (fun i => fits .byte (.int (f (a + i))))
def zz_acp (st : List Value) (h : zz_H) : Option (List Value × zz_H) := match st with
  | .int n :: .int dp :: .ref a :: .int sp :: .ref a0 :: rest => match zz_at h a0, zz_at h a with
    | some (.inl (0, n0, .inl f)), some (.inl (0, n1, .inl g)) => if zz_cats rest ≤ 8 ∧ ¬ sp < 0 ∧ ¬ dp < 0 ∧ ¬ n < 0 ∧ sp.toNatClampNeg + n.toNatClampNeg ≤ n0 ∧ dp.toNatClampNeg + n.toNatClampNeg ≤ n1 then some (rest, h.set a (.inl (0, n1, .inl (va_cpy f g sp.toNatClampNeg dp.toNatClampNeg n.toNatClampNeg)))) else none
    | some (.inl (1, n0, .inr (.inl f))), some (.inl (1, n1, .inr (.inl g))) => if zz_cats rest ≤ 8 ∧ ¬ sp < 0 ∧ ¬ dp < 0 ∧ ¬ n < 0 ∧ sp.toNatClampNeg + n.toNatClampNeg ≤ n0 ∧ dp.toNatClampNeg + n.toNatClampNeg ≤ n1 then some (rest, h.set a (.inl (1, n1, .inr (.inl (va_cpy f g sp.toNatClampNeg dp.toNatClampNeg n.toNatClampNeg))))) else none
    | some (.inl (2, n0, .inl f)), some (.inl (2, n1, .inl g)) => if zz_cats rest ≤ 8 ∧ ¬ sp < 0 ∧ ¬ dp < 0 ∧ ¬ n < 0 ∧ sp.toNatClampNeg + n.toNatClampNeg ≤ n0 ∧ dp.toNatClampNeg + n.toNatClampNeg ≤ n1 ∧ zz_bts f sp.toNatClampNeg n.toNatClampNeg = true then some (rest, h.set a (.inl (2, n1, .inl (va_cpy f g sp.toNatClampNeg dp.toNatClampNeg n.toNatClampNeg)))) else none
    | _, _ => none
  | _ => none
theorem zz_cats_v (B : Nat) (O : Nat → Nat) (vs : List Value) : ((zz_s B O vs).map fun v => v.category).sum = zz_cats vs := by
  unfold zz_cats zz_s
  rw [List.map_map]
  congr 1
  exact List.map_congr_left (fun v _ => zz_v_cat B O v)
theorem zz_AOA_moved {ty : FieldType} {u U : State} (hvm : u.vm.Alike U.vm) (h : va_Nw (.arrayOver (.array ty)) u) : va_Nw (.arrayOver (.array ty)) U := by
  obtain ⟨comp, c, k, h1, h2, h3, h4, h5⟩ := arrayOverA_spec h
  obtain ⟨k', hk', he⟩ := hvm.2.2 _ _ h3
  have hi : (U.vm.classes.findIdx? fun (x : Class) => match x.kind with | .array component _ => component == comp | _ => false) = some c := by
    have e0 : U.vm.bare = u.vm.bare := by first | exact hvm.bare_eq | exact hvm.bare_eq.symm
    have a1 := va_idx_bare U.vm comp
    have a2 := va_idx_bare u.vm comp
    rw [e0] at a1
    exact a1.symm.trans (a2.trans h2)
  have hkind : k'.kind = .array comp (.array ty) := by rw [he]; exact h4
  have f1 : U.vm.findClass (FieldType.array ty).toString = some comp := by rw [hvm.findClass]; exact h1
  have f2 : U.vm.findClass ("[" ++ (FieldType.array ty).toString) = some c := by rw [hvm.findClass]; exact h5
  unfold va_Nw Cond.before Cond.holds
  simp only [Cond.value]
  rw [f1, Option.bind_some]
  refine (congrArg (fun o : Option Nat => (o.bind (fun c => (U.vm.classes[c]?).map fun (k : Class) => match k.kind with | .array _ ty9 => decide (ty9 = FieldType.array ty) && decide (U.vm.findClass ("[" ++ (FieldType.array ty).toString) = some c) | _ => false) == some true)) hi).trans ?_
  simp [hk', hkind, f2]
theorem zz_outer (c : ClassId) (N h0 : Nat) : ∀ i : Nat, Jvm.Free.Multi.outerC c N h0 i = arrV c N (fun j => va_rf (if j < i then some (h0 + 1 + j) else none))
  | 0 => by
    show ({ cls := c, slots := Array.replicate N .null, vm := .none } : Cell) = _
    rw [arrV_new]
    rfl
  | i + 1 => by
    show (Jvm.Free.Multi.outerC c N h0 i).setSlot i (.ref (h0 + 1 + i)) = _
    rw [zz_outer c N h0 i, arrV_store]
    refine congrArg (arrV c N) (funext fun j => ?_)
    by_cases e : j = i
    · subst e
      simp [updV, va_rf]
    · by_cases h : j < i
      · simp [updV, e, h, Nat.lt_succ_of_lt h]
      · simp [updV, e, h, show ¬ j < i + 1 by omega]
theorem zz_w_apps (B : Nat) (O : Nat → Nat) (dA : Nat → ClassId) (h xs : zz_H) : zz_w B O dA (h ++ xs) = zz_w B O dA h ++ xs.mapIdx (fun i x => (B + h.length + i, zz_e B O dA x)) := by
  unfold zz_w
  rw [List.mapIdx_append]
  congr 1
  congr 1
  funext i x
  rw [Nat.add_comm i, Nat.add_assoc]
section ZU
variable {p : Program} {l : Launch} {e : Env} {R : Room} {s : State} {m : MethodId} {args : Array Value} {below : List Frame} {meth : Method} {c : Code} {H : Heap} {locs : List Loc} {cells slots : Nat} {Q : State → Prop}
variable {cc : ByteArray} {B : Nat} {O : Nat → Nat} {D : va_G} {cl : List vw_C} {dA : Nat → ClassId} {H0 : Heap} {h h' : zz_H} {Ts : List Cond} {own : String}
variable {ln pc pc' : Nat} {lv lv' : List (Nat × Value)} {st st' : List Value} {ls : Array Slot}
theorem zz_R.pushes (hR : zz_R D cl B O dA H0 locs h H) {xs : zz_H} (hl : h.length + xs.length ≤ zz_out) {H1 : Heap} (he : ∀ (i : Nat) (x : zz_C), xs[i]? = some x → va_at D cl (B + h.length + i, zz_e B O dA x) H1) (z : H1.size = H.size + xs.length) (oq : ∀ q : Nat, q < H.size → H1[q]? = H[q]?) : zz_R D cl B O dA H0 locs (h ++ xs) H1 := by
  obtain ⟨hP, hS, hz, hL, hB⟩ := hR
  refine ⟨?_, ⟨Nat.le_trans hS.1 (by omega), fun q h1 h2 => (oq q (Nat.lt_of_lt_of_le h1 hS.1)).trans (hS.2.1 q h1 h2), hS.2.2⟩, by rw [z, hz, List.length_append]; omega, by rw [List.length_append]; exact hl, hB⟩
  rw [zz_w_apps]
  refine (hP.kept (fun k q hq => oq q.1 ((hP k q hq).lt))).app (fun k q hq => ?_)
  rw [List.getElem?_mapIdx] at hq
  cases hx : xs[k]? with
  | none => rw [hx] at hq; cases hq
  | some x => rw [hx] at hq; cases hq; exact he k x hx
set_option maxHeartbeats 1000000 in
theorem zz_mna_ok (hx : p.tables.exec = Jvm.exec) (hb : c.code = cc) (hts : ∀ w ∈ Ts, w.before args s = true) (hown : s.vm.findClass own = some m.cls) (hK : va_K D cl (zz_tys dA) s) (hR : zz_R D cl B O dA H0 locs h H) {index : Nat} (hcl : Cond.classLink own index ("[" ++ (FieldType.array .int).toString) ∈ Ts) (hover : va_Nw (.arrayOver (.array .int)) s) (harr : Cond.arrayClass .int ∈ Ts)
    (hd : decode cc pc = .ok (.multianewarray index 2, ln)) (hs : zz_mna ln pc lv st h = some ((pc', lv', st'), h')) {nn kk9 : Nat} (hnk : ∀ x y r, st = .int y :: .int x :: r → x.toNatClampNeg = nn ∧ y.toNatClampNeg = kk9) (hcells : cells + (1 + nn) ≤ R.cells) (hslots : slots + (nn + nn * kk9) ≤ R.slots)
    (kk : ∀ (H1 : Heap), zz_R D cl B O dA H0 locs h' H1 → W p l e R s m args below meth c H1 locs (cells + 1 + nn) (slots + nn + nn * kk9) Q (F0 m pc' ls (zz_s B O st'))) : W p l e R s m args below meth c H locs cells slots Q (F0 m pc ls (zz_s B O st)) ∧ lv' = lv := by
  unfold zz_mna at hs
  split at hs
  · rename_i k n r
    split at hs
    · rename_i e0
      obtain ⟨e0, e1, e2, e3, e4, e5⟩ := e0
      subst e0
      cases hs
      obtain ⟨rfl, rfl⟩ := hnk _ _ _ rfl
      refine ⟨?_, rfl⟩
      intro T hT Xs
      obtain ⟨vm₁, cA, comp, -, fA, fC, hO, -, X', step⟩ := Xs.multianewarray2F (ty := .int) hx hown (hts _ hcl) hover (hts _ harr) (g := F0 m pc ls (.int k :: .int n :: zz_s B O r)) rfl (by rw [hb]; exact hd) rfl e1 e2 (by omega) (by show k.toNatClampNeg * 4 ≤ _; omega) (by omega) rfl rfl hcells hslots
      have ec : comp = dA 0 := Option.some.inj (fC.symm.trans (hK.2 0 _ rfl).2)
      have ea : cA = dA 5 := Option.some.inj (fA.symm.trans (hK.2 5 _ rfl).2)
      subst ec
      subst ea
      generalize hF : Jvm.Free.Multi.fill (T.setVm vm₁) (dA 5) (dA 0) n.toNatClampNeg k.toNatClampNeg (defaultValue .int) n.toNatClampNeg = F at X' step
      have hTh : (T.setVm vm₁).heap = H := hT
      obtain ⟨f1, f2, -, -⟩ := Jvm.Free.Multi.fill_facts (T.setVm vm₁) (dA 5) (dA 0) n.toNatClampNeg k.toNatClampNeg (defaultValue .int) n.toNatClampNeg
      rw [hF, hTh] at f1 f2
      have hold : ∀ x : Nat, x < H.size → F.heap[x]? = H[x]? := fun x hx => by
        have := Jvm.Free.Multi.fill_old (T.setVm vm₁) (dA 5) (dA 0) n.toNatClampNeg k.toNatClampNeg (defaultValue .int) (a := x) (by rw [hTh]; exact hx) n.toNatClampNeg
        rw [hF, hTh] at this
        exact this
      have hrow : ∀ j : Nat, j < n.toNatClampNeg → F.heap[H.size + 1 + j]? = some (arrV (dA 0) k.toNatClampNeg (fun _ => .int 0)) := fun j hj => by
        have := Jvm.Free.Multi.fill_inner (T.setVm vm₁) (dA 5) (dA 0) n.toNatClampNeg k.toNatClampNeg (defaultValue .int) n.toNatClampNeg j hj
        rw [hF, hTh] at this
        rw [this]
        show some ({ cls := dA 0, slots := Array.replicate _ _, vm := .none } : Cell) = _
        rw [arrV_new]
        rfl
      rw [zz_outer] at f2
      have hsz := hR.2.2.1
      have key : zz_R D cl B O dA H0 locs (h ++ (.inl (5, n.toNatClampNeg, .inr (.inr (.inr (.inr fun i => if i < n.toNatClampNeg then some (h.length + 1 + i) else none)))) :: List.replicate n.toNatClampNeg (.inl (0, k.toNatClampNeg, .inl fun _ => 0)))) F.heap := by
        refine hR.pushes (by simp; omega) (fun i x hi => ?_) (by simp; omega) hold
        match i, hi with
        | 0, hi =>
          cases hi
          show F.heap[B + h.length + 0]? = some (arrV (dA 5) n.toNatClampNeg (fun j => va_rf ((if j < n.toNatClampNeg then some (h.length + 1 + j) else none).map (zz_a B O))))
          rw [Nat.add_zero, ← hsz, f2]
          congr 2
          funext j
          by_cases hj : j < n.toNatClampNeg
          · rw [if_pos hj, if_pos hj]
            show va_rf (some (H.size + 1 + j)) = va_rf (some (zz_a B O (h.length + 1 + j)))
            rw [zz_a_in (by omega)]
            congr 2
            omega
          · rw [if_neg hj, if_neg hj]
            rfl
        | i + 1, hi =>
          have hi : (List.replicate n.toNatClampNeg ((.inl (0, k.toNatClampNeg, .inl fun _ => 0)) : zz_C))[i]? = some x := hi
          rw [List.getElem?_replicate] at hi
          split at hi
          · rename_i hlt
            cases hi
            have := hrow i hlt
            rw [show H.size + 1 + i = B + h.length + (i + 1) by omega] at this
            exact this
          · cases hi
      obtain ⟨t, a1, b1⟩ := kk F.heap key F rfl X'
      refine ⟨t, step t ?_, b1⟩
      have hz : zz_s B O (.ref h.length :: r) = .ref T.heap.size :: zz_s B O r := by
        show Value.ref (zz_a B O h.length) :: _ = _
        rw [zz_a_in (by omega), ← hsz, hT]; rfl
      rw [hz] at a1
      exact a1
    · cases hs
  · cases hs
theorem zz_clamp {z : Int32} (hz : ¬ z < 0) : z.toInt = (z.toNatClampNeg : Int) := by
  have hz0 : (0 : Int) ≤ z.toInt := by
    have := Int32.not_lt.mp hz
    simpa using Int32.le_iff_toInt_le.mp this
  show z.toInt = ((z.toInt.toNat : Nat) : Int)
  omega
set_option maxHeartbeats 1000000 in
theorem zz_acp_ok (hx : p.tables.exec = Jvm.exec) (hb : c.code = cc) (hml : c.maxLocals = ls.size) (hts : ∀ w ∈ Ts, w.before args s = true) (hown : s.vm.findClass own = some m.cls) (hK : va_K D cl (zz_tys dA) s) (hR : zz_R D cl B O dA H0 locs h H) {index : Nat} (hlink : Cond.methodLink own index arraycopyName ∈ Ts) (hnat : Cond.native arraycopyName ∈ Ts) (hstat : Cond.static arraycopyName ∈ Ts) (hini : Cond.initialized "java/lang/System" ∈ Ts)
    (hframes : 1 ≤ R.frames) (hlocals : 64 ≤ R.locals) (hd : decode cc pc = .ok (.invokestatic index, 3)) (hs : zz_acp st h = some (st', h'))
    (kk : ∀ (H1 : Heap) (locs1 : List Loc), zz_R D cl B O dA H0 locs1 h' H1 → W p l e R s m args below meth c H1 locs1 cells slots Q (F0 m (pc + 3) ls (zz_s B O st'))) : W p l e R s m args below meth c H locs cells slots Q (F0 m pc ls (zz_s B O st)) := by
  have hnf : nativeFrameWords "java/lang/System" "arraycopy" 5 ≤ 40 := by decide +kernel
  unfold zz_acp at hs
  split at hs
  · rename_i n dp a sp a0 rest
    split at hs
    · rename_i n0 f n1 g ha0 ha
      split at hs
      · rename_i e0
        obtain ⟨e0, e1, e2, e3, e4, e5⟩ := e0
        cases hs
        obtain ⟨p1, p2⟩ := zz_at_ok ha0
        obtain ⟨p3, p4⟩ := zz_at_ok ha
        show W p l e R s m args below meth c H locs cells slots Q (F0 m pc ls (.int n :: .int dp :: .ref (zz_a B O a) :: .int sp :: .ref (zz_a B O a0) :: zz_s B O st'))
        rw [zz_a_in p1, zz_a_in p3]
        have hct := zz_cats_v B O st'
        intro T hT Xs
        have hc0 : H[B + a0]? = some (vp_cell (dA 0) (n0, .inl f)) := hR.1 a0 _ (zz_w_at p2)
        have hc1 : H[B + a]? = some (vp_cell (dA 0) (n1, .inl g)) := hR.1 a _ (zz_w_at p4)
        obtain ⟨-, k0, hk0, cm0, hkk0⟩ := (hK.2 0 _ rfl).1 n0 (fun j => .int (f j))
        obtain ⟨vm', X', step⟩ := Xs.arraycopy hx hown (hts _ hlink) (hts _ hnat) (hts _ hstat) (hts _ hini) (src := B + a0) (dst := B + a) (cs := vp_cell (dA 0) (n0, .inl f)) (cd := vp_cell (dA 0) (n1, .inl g)) (srcPos := sp) (destPos := dp) (n := n) (by rw [hT]; exact hc0) (by rw [hT]; exact hc1)
          (fun _ h => by cases h) (fun _ h => by cases h) (fun h => by cases h) (fun h => by cases h) hk0 hk0 hkk0 hkk0 (by simp [refKind]) e1 e2 e3
          (by rw [zz_clamp e1, zz_clamp e3]; show ¬ _ > ((arrV (dA 0) n0 (fun j => .int (f j))).slots.size : Int); rw [arrV_size]; omega)
          (by rw [zz_clamp e2, zz_clamp e3]; show ¬ _ > ((arrV (dA 0) n1 (fun j => .int (g j))).slots.size : Int); rw [arrV_size]; omega)
          (fun vm₁ _ i hi => by
            have e : (vp_cell (dA 0) (n0, .inl f)).slots.getD (sp.toNatClampNeg + i) .null = .int (f (sp.toNatClampNeg + i)) := by
              show (arrV (dA 0) n0 (fun j => .int (f j))).slots.getD _ _ = _
              rw [Array.getD_eq_getD_getElem?, arrV_read _ _ (by omega)]
              rfl
            exact ⟨by rw [e]; rfl, by rw [e]; exact trivial⟩)
          (g := F0 m pc ls (.int n :: .int dp :: .ref (B + a) :: .int sp :: .ref (B + a0) :: zz_s B O st')) rfl (by rw [hml]) (rest := zz_s B O st') rfl (by rw [hb]; exact hd) hframes (by show 2 * 0 + _ + _ ≤ _; rw [hct]; omega)
        have e9 : copied (vp_cell (dA 0) (n0, .inl f)) (vp_cell (dA 0) (n1, .inl g)) sp dp n = vp_cell (dA 0) (n1, .inl (va_cpy f g sp.toNatClampNeg dp.toNatClampNeg n.toNatClampNeg)) := va_copied (fun z => .int z) (dA 0) (dA 0) f g e4
        rw [e9] at X' step
        have hl9 : B + a < H.size := (Array.getElem?_eq_some_iff.mp hc1).1
        have hheap : ((T.setVm vm').setCell (B + a) (vp_cell (dA 0) (n1, .inl (va_cpy f g sp.toNatClampNeg dp.toNatClampNeg n.toNatClampNeg)))).heap = H.setIfInBounds (B + a) (vp_cell (dA 0) (n1, .inl (va_cpy f g sp.toNatClampNeg dp.toNatClampNeg n.toNatClampNeg))) := by rw [← hT]; rfl
        have oq : ∀ q : Nat, q ≠ B + a → (H.setIfInBounds (B + a) (vp_cell (dA 0) (n1, .inl (va_cpy f g sp.toNatClampNeg dp.toNatClampNeg n.toNatClampNeg))))[q]? = H[q]? := fun q hq => by simp [Array.getElem?_setIfInBounds, Ne.symm hq]
        obtain ⟨t, a1, b1⟩ := kk _ _ (hR.set (k := a) (x := .inl (0, n1, .inl (va_cpy f g sp.toNatClampNeg dp.toNatClampNeg n.toNatClampNeg))) (by
            rw [← zz_w_set]
            exact hR.1.set (zz_wD B O dA h) (zz_w_at p4) (show (H.setIfInBounds (B + a) _)[B + a]? = some _ by simp [Array.getElem?_setIfInBounds, hl9]) oq) ⟨by simp; exact hR.2.1.1, fun q g1 g2 => by
            rw [oq q (fun e => g2 (by rw [e]; exact Nat.le_add_right B a))]
            exact hR.2.1.2.1 q g1 g2, fun q hq => by
            rcases List.mem_append.mp hq with h | h
            · exact hR.2.1.2.2 q h
            · obtain ⟨z, -, hz⟩ := List.mem_map.mp h
              rw [← hz]
              exact Nat.le_add_right B a⟩ (by simp)) _ hheap X'
        exact ⟨t, step t a1, b1⟩
      · cases hs
    · rename_i n0 f n1 g ha0 ha
      split at hs
      · rename_i e0
        obtain ⟨e0, e1, e2, e3, e4, e5⟩ := e0
        cases hs
        obtain ⟨p1, p2⟩ := zz_at_ok ha0
        obtain ⟨p3, p4⟩ := zz_at_ok ha
        show W p l e R s m args below meth c H locs cells slots Q (F0 m pc ls (.int n :: .int dp :: .ref (zz_a B O a) :: .int sp :: .ref (zz_a B O a0) :: zz_s B O st'))
        rw [zz_a_in p1, zz_a_in p3]
        have hct := zz_cats_v B O st'
        intro T hT Xs
        have hc0 : H[B + a0]? = some (vp_cell (dA 1) (n0, .inr (.inl f))) := hR.1 a0 _ (zz_w_at p2)
        have hc1 : H[B + a]? = some (vp_cell (dA 1) (n1, .inr (.inl g))) := hR.1 a _ (zz_w_at p4)
        obtain ⟨-, k0, hk0, cm0, hkk0⟩ := (hK.2 1 _ rfl).1 n0 (fun j => .long (f j))
        obtain ⟨vm', X', step⟩ := Xs.arraycopy hx hown (hts _ hlink) (hts _ hnat) (hts _ hstat) (hts _ hini) (src := B + a0) (dst := B + a) (cs := vp_cell (dA 1) (n0, .inr (.inl f))) (cd := vp_cell (dA 1) (n1, .inr (.inl g))) (srcPos := sp) (destPos := dp) (n := n) (by rw [hT]; exact hc0) (by rw [hT]; exact hc1)
          (fun _ h => by cases h) (fun _ h => by cases h) (fun h => by cases h) (fun h => by cases h) hk0 hk0 hkk0 hkk0 (by simp [refKind]) e1 e2 e3
          (by rw [zz_clamp e1, zz_clamp e3]; show ¬ _ > ((arrV (dA 1) n0 (fun j => .long (f j))).slots.size : Int); rw [arrV_size]; omega)
          (by rw [zz_clamp e2, zz_clamp e3]; show ¬ _ > ((arrV (dA 1) n1 (fun j => .long (g j))).slots.size : Int); rw [arrV_size]; omega)
          (fun vm₁ _ i hi => by
            have e : (vp_cell (dA 1) (n0, .inr (.inl f))).slots.getD (sp.toNatClampNeg + i)   .null = .long (f (sp.toNatClampNeg + i)) := by
              show (arrV (dA 1) n0 (fun j => .long (f j))).slots.getD _ _ = _
              rw [Array.getD_eq_getD_getElem?, arrV_read _ _ (by omega)]
              rfl
            exact ⟨by rw [e]; rfl, by rw [e]; exact trivial⟩)
          (g := F0 m pc ls (.int n :: .int dp :: .ref (B + a) :: .int sp :: .ref (B + a0) :: zz_s B O st')) rfl (by rw [hml]) (rest := zz_s B O st') rfl (by rw [hb]; exact hd) hframes (by show 2 * 0 + _ + _ ≤ _; rw [hct]; omega)
        have e9 : copied (vp_cell (dA 1) (n0, .inr (.inl f))) (vp_cell (dA 1) (n1, .inr (.inl g))) sp dp n = vp_cell (dA 1) (n1, .inr (.inl (va_cpy f g sp.toNatClampNeg dp.toNatClampNeg n.toNatClampNeg))) := va_copied (fun z => .long z) (dA 1) (dA 1) f g e4
        rw [e9] at X' step
        have hl9 : B + a < H.size := (Array.getElem?_eq_some_iff.mp hc1).1
        have hheap : ((T.setVm vm').setCell (B + a) (vp_cell (dA 1) (n1, .inr (.inl (va_cpy f g sp.toNatClampNeg dp.toNatClampNeg n.toNatClampNeg))))).heap = H.setIfInBounds (B + a) (vp_cell (dA 1) (n1, .inr (.inl (va_cpy f g sp.toNatClampNeg dp.toNatClampNeg n.toNatClampNeg)))) := by rw [← hT]; rfl
        have oq : ∀ q : Nat, q ≠ B + a → (H.setIfInBounds (B + a) (vp_cell (dA 1) (n1, .inr (.inl (va_cpy f g sp.toNatClampNeg dp.toNatClampNeg n.toNatClampNeg)))))[q]? = H[q]? := fun q hq => by simp [Array.getElem?_setIfInBounds, Ne.symm hq]
        obtain ⟨t, a1, b1⟩ := kk _ _ (hR.set (k := a) (x := .inl (1, n1, .inr (.inl (va_cpy f g sp.toNatClampNeg dp.toNatClampNeg n.toNatClampNeg)))) (by
            rw [← zz_w_set]
            exact hR.1.set (zz_wD B O dA h) (zz_w_at p4) (show (H.setIfInBounds (B + a) _)[B + a]? = some _ by simp [Array.getElem?_setIfInBounds, hl9]) oq) ⟨by simp; exact hR.2.1.1, fun q g1 g2 => by
            rw [oq q (fun e => g2 (by rw [e]; exact Nat.le_add_right B a))]
            exact hR.2.1.2.1 q g1 g2, fun q hq => by
            rcases List.mem_append.mp hq with h | h
            · exact hR.2.1.2.2 q h
            · obtain ⟨z, -, hz⟩ := List.mem_map.mp h
              rw [← hz]
              exact Nat.le_add_right B a⟩ (by simp)) _ hheap X'
        exact ⟨t, step t a1, b1⟩
      · cases hs
    · rename_i n0 f n1 g ha0 ha
      split at hs
      · rename_i e0
        obtain ⟨e0, e1, e2, e3, e4, e5, e6⟩ := e0
        cases hs
        obtain ⟨p1, p2⟩ := zz_at_ok ha0
        obtain ⟨p3, p4⟩ := zz_at_ok ha
        show W p l e R s m args below meth c H locs cells slots Q (F0 m pc ls (.int n :: .int dp :: .ref (zz_a B O a) :: .int sp :: .ref (zz_a B O a0) :: zz_s B O st'))
        rw [zz_a_in p1, zz_a_in p3]
        have hct := zz_cats_v B O st'
        intro T hT Xs
        have hc0 : H[B + a0]? = some (vp_cell (dA 2) (n0, .inl f)) := hR.1 a0 _ (zz_w_at p2)
        have hc1 : H[B + a]? = some (vp_cell (dA 2) (n1, .inl g)) := hR.1 a _ (zz_w_at p4)
        obtain ⟨-, k0, hk0, cm0, hkk0⟩ := (hK.2 2 _ rfl).1 n0 (fun j => .int (f j))
        obtain ⟨vm', X', step⟩ := Xs.arraycopy hx hown (hts _ hlink) (hts _ hnat) (hts _ hstat) (hts _ hini) (src := B + a0) (dst := B + a) (cs := vp_cell (dA 2) (n0, .inl f)) (cd := vp_cell (dA 2) (n1, .inl g)) (srcPos := sp) (destPos := dp) (n := n) (by rw [hT]; exact hc0) (by rw [hT]; exact hc1)
          (fun _ h => by cases h) (fun _ h => by cases h) (fun h => by cases h) (fun h => by cases h) hk0 hk0 hkk0 hkk0 (by simp [refKind]) e1 e2 e3
          (by rw [zz_clamp e1, zz_clamp e3]; show ¬ _ > ((arrV (dA 2) n0 (fun j => .int (f j))).slots.size : Int); rw [arrV_size]; omega)
          (by rw [zz_clamp e2, zz_clamp e3]; show ¬ _ > ((arrV (dA 2) n1 (fun j => .int (g j))).slots.size : Int); rw [arrV_size]; omega)
          (fun vm₁ _ i hi => by
            have e : (vp_cell (dA 2) (n0, .inl f)).slots.getD (sp.toNatClampNeg + i) .null = .int (f (sp.toNatClampNeg + i)) := by
              show (arrV (dA 2) n0 (fun j => .int (f j))).slots.getD _ _ = _
              rw [Array.getD_eq_getD_getElem?, arrV_read _ _ (by omega)]
              rfl
            exact ⟨by rw [e]; exact List.all_eq_true.mp e6 i (List.mem_range.mpr hi), by rw [e]; exact trivial⟩)
          (g := F0 m pc ls (.int n :: .int dp :: .ref (B + a) :: .int sp :: .ref (B + a0) :: zz_s B O st')) rfl (by rw [hml]) (rest := zz_s B O st') rfl (by rw [hb]; exact hd) hframes (by show 2 * 0 + _ + _ ≤ _; rw [hct]; omega)
        have e9 : copied (vp_cell (dA 2) (n0, .inl f)) (vp_cell (dA 2) (n1, .inl g)) sp dp n = vp_cell (dA 2) (n1, .inl (va_cpy f g sp.toNatClampNeg dp.toNatClampNeg n.toNatClampNeg)) := va_copied (fun z => .int z) (dA 2) (dA 2) f g e4
        rw [e9] at X' step
        have hl9 : B + a < H.size := (Array.getElem?_eq_some_iff.mp hc1).1
        have hheap : ((T.setVm vm').setCell (B + a) (vp_cell (dA 2) (n1, .inl (va_cpy f g sp.toNatClampNeg dp.toNatClampNeg n.toNatClampNeg)))).heap = H.setIfInBounds (B + a) (vp_cell (dA 2) (n1, .inl (va_cpy f g sp.toNatClampNeg dp.toNatClampNeg n.toNatClampNeg))) := by rw [← hT]; rfl
        have oq : ∀ q : Nat, q ≠ B + a → (H.setIfInBounds (B + a) (vp_cell (dA 2) (n1, .inl (va_cpy f g sp.toNatClampNeg dp.toNatClampNeg n.toNatClampNeg))))[q]? = H[q]? := fun q hq => by simp [Array.getElem?_setIfInBounds, Ne.symm hq]
        obtain ⟨t, a1, b1⟩ := kk _ _ (hR.set (k := a) (x := .inl (2, n1, .inl (va_cpy f g sp.toNatClampNeg dp.toNatClampNeg n.toNatClampNeg))) (by
            rw [← zz_w_set]
            exact hR.1.set (zz_wD B O dA h) (zz_w_at p4) (show (H.setIfInBounds (B + a) _)[B + a]? = some _ by simp [Array.getElem?_setIfInBounds, hl9]) oq) ⟨by simp; exact hR.2.1.1, fun q g1 g2 => by
            rw [oq q (fun e => g2 (by rw [e]; exact Nat.le_add_right B a))]
            exact hR.2.1.2.1 q g1 g2, fun q hq => by
            rcases List.mem_append.mp hq with h | h
            · exact hR.2.1.2.2 q h
            · obtain ⟨z, -, hz⟩ := List.mem_map.mp h
              rw [← hz]
              exact Nat.le_add_right B a⟩ (by simp)) _ hheap X'
        exact ⟨t, step t a1, b1⟩
      · cases hs
    · cases hs
  · cases hs
end ZU
