/-! ===== fields written, cells made ===== -/
def zz_aast (ln pc : Nat) (lv : List (Nat × Value)) (st : List Value) (h : zz_H) : Option (zz_F × zz_H) := match st with
  | .ref v :: .int i :: .ref a :: r => match zz_at h a, zz_at h v with
    | some (.inl (4, n, .inr (.inr (.inr (.inr f))))), some (.inr (cj, _)) => if ln = 1 ∧ cj = 7 ∧ ¬ (i < 0 ∨ n ≤ i.toNatClampNeg) then some ((pc + 1, lv, r), h.set a (.inl (4, n, .inr (.inr (.inr (.inr (va_up f i.toNatClampNeg (some v)))))))) else none
    | _, _ => none
  | _ => none
def zz_new (fs0 : List Value) (ci ln pc : Nat) (lv : List (Nat × Value)) (st : List Value) (h : zz_H) : Option (zz_F × zz_H) := if ln = 3 ∧ h.length < zz_out then some ((pc + 3, lv, .ref h.length :: st), h ++ [.inr (ci, fs0)]) else none
def zz_at4 : ArrayType → Option (Nat × ((Nat → Int32) ⊕ (Nat → Int64) ⊕ (Nat → UInt32) ⊕ (Nat → UInt64) ⊕ (Nat → Option Nat)))
  | .int => some (0, .inl fun _ => 0)
  | .long => some (1, .inr (.inl fun _ => 0))
  | .byte => some (2, .inl fun _ => 0)
  | .boolean => some (3, .inl fun _ => 0)
  | _ => none
def zz_newa (ty : ArrayType) (ln pc : Nat) (lv : List (Nat × Value)) (st : List Value) (h : zz_H) : Option (zz_F × zz_H) := match st with
  | .int n :: r => match zz_at4 ty with
    | some (t, d) => if ln = 2 ∧ ¬ n < 0 ∧ n.toNatClampNeg ≤ 1000000 ∧ h.length < zz_out then some ((pc + 2, lv, .ref h.length :: r), h ++ [.inl (t, n.toNatClampNeg, d)]) else none
    | none => none
  | _ => none
def zz_anew (ln pc : Nat) (lv : List (Nat × Value)) (st : List Value) (h : zz_H) : Option (zz_F × zz_H) := match st with
  | .int n :: r => if ln = 3 ∧ ¬ n < 0 ∧ n.toNatClampNeg ≤ 1000000 ∧ h.length < zz_out then some ((pc + 3, lv, .ref h.length :: r), h ++ [.inl (4, n.toNatClampNeg, .inr (.inr (.inr (.inr fun _ => none))))]) else none
  | _ => none
section ZN
variable {p : Program} {l : Launch} {e : Env} {R : Room} {s : State} {m : MethodId} {args : Array Value} {below : List Frame} {meth : Method} {c : Code} {H : Heap} {locs : List Loc} {cells slots : Nat} {Q : State → Prop}
variable {cc : ByteArray} {B : Nat} {O : Nat → Nat} {D : va_G} {cl : List vw_C} {dA : Nat → ClassId} {H0 : Heap} {h h' : zz_H} {Ts : List Cond} {own : String} {tf : Nat → Nat → FieldType} {X : Nat → Option zz_C}
variable {ln pc pc' : Nat} {lv lv' : List (Nat × Value)} {st st' : List Value} {ls : Array Slot}
theorem zz_R.push (hR : zz_R D cl B O dA H0 locs h H) (hl : h.length < zz_out) {x : zz_C} {H1 : Heap} (he : va_at D cl (B + h.length, zz_e B O dA x) H1) (z : H1.size = H.size + 1) (oq : ∀ q : Nat, q < H.size → H1[q]? = H[q]?) : zz_R D cl B O dA H0 locs (h ++ [x]) H1 := by
  obtain ⟨hP, hS, hz, hL, hB⟩ := hR
  refine ⟨?_, ⟨Nat.le_trans hS.1 (by omega), fun q h1 h2 => (oq q (Nat.lt_of_lt_of_le h1 hS.1)).trans (hS.2.1 q h1 h2), hS.2.2⟩, by rw [z, hz, List.length_append]; rfl, by rw [List.length_append]; exact hl, hB⟩
  rw [← zz_w_app]
  refine (hP.kept (fun k q hq => oq q.1 ((hP k q hq).lt))).app (fun k q hq => ?_)
  have h0 : k < 1 := (List.getElem?_eq_some_iff.mp hq).1
  rw [show k = 0 by omega] at hq
  cases hq
  exact he
theorem zz_putf_ok (hx : p.tables.exec = Jvm.exec) (hb : c.code = cc) (hts : ∀ w ∈ Ts, w.before args s = true) (hG : zz_G cl tf Ts) (hown : s.vm.findClass own = some m.cls) (hK : va_K D cl (zz_tys dA) s) (hR : zz_R D cl B O dA H0 locs h H) {ci k index : Nat} {q : vw_C} (hc : cl[ci]? = some q) (hk : k < q.2.2) (hlink : Cond.fieldLink own index (q.2.1 k).1 (q.2.1 k).2.1 (q.2.1 k).2.2.1 ∈ Ts) (hfin : (q.2.1 k).2.2.2 = false ∨ ((q.2.1 k).2.2.2 = true ∧ meth.name = "<init>" ∧ (q.2.1 k).1 = own))
    (hd : decode cc pc = .ok (.putfield index, ln)) (hs : zz_putf (tf ci k) ci k ln pc lv st h = some ((pc', lv', st'), h'))
    (kk : ∀ (H1 : Heap) (locs1 : List Loc), zz_R D cl B O dA H0 locs1 h' H1 → W p l e R s m args below meth c H1 locs1 cells slots Q (F0 m pc' ls (zz_s B O st'))) : W p l e R s m args below meth c H locs cells slots Q (F0 m pc ls (zz_s B O st)) ∧ lv' = lv := by
  unfold zz_putf at hs
  split at hs
  · rename_i v a r
    split at hs
    · rename_i cj fs ha
      split at hs
      · rename_i e0
        obtain ⟨e0, e1, e2, e3⟩ := e0
        subst e0; subst e1
        cases hs
        obtain ⟨ha1, ha2⟩ := zz_at_ok ha
        obtain ⟨hn, hft⟩ := zz_fit_ok (B := B) (O := O) e3
        refine ⟨?_, rfl⟩
        show W p l e R s m args below meth c H locs cells slots Q (F0 m pc ls (zz_v B O v :: .ref (zz_a B O a) :: zz_s B O st'))
        rw [zz_a_in ha1]
        obtain ⟨hin, hty, hnm⟩ := hG _ _ hc
        have hap := va_apart (own := own) hts hin (tf cj) hty hnm hK hc
        obtain ⟨r0, h1, cell, q1, q2, q3, q4⟩ := hR.1 a _ (zz_w_at ha2)
        have hr : r0 = q := Option.some.inj (h1.symm.trans hc)
        subst hr
        obtain ⟨hS, hfc, kC, hkC, hkind⟩ := hK.1 cj _ hc
        obtain ⟨cf, kf, fi, f, hi, hsl⟩ := hS k hk
        have hlay := hts _ (hin _ (u_in_lay hk))
        unfold u_lay at hlay
        have hst := (u_facts hfc hkC (u_lays hts hin hk) hi).1
        have fin : ∀ (i : Nat) (H' : Heap), H'[B + a]? = some (cell.setSlot f.slot (zz_v B O v)) → H'.size = H.size → (∀ x, x ≠ B + a → H'[x]? = H[x]?) → zz_R D cl B O dA H0 (locs ++ [⟨B + a, i⟩]) (h.set a (.inr (cj, fs.set k v))) H' := fun i H' g1 g2 g3 => by
          rw [hsl] at g1
          refine hR.put ha2 ⟨_, hc, ?_⟩ g2 g3
          exact t_OB.to (V := updV (vp_V (fs.map (zz_v B O))) k (zz_v B O v)) ⟨_, g1, q2, q3, t_set q4 hap hk _⟩ (fun j _ => by
            have := vp_updV_set (fs := fs.map (zz_v B O)) (k := k) (by rw [List.length_map]; exact e2) (zz_v B O v) j
            rw [this, ← List.map_set])
        rcases hfin with hf | ⟨hf, hin2, hdecl⟩
        · rw [if_neg (by rw [hf]; decide)] at hlay
          have h6 := u_store hfc hkC hkind hlay hi (hty k hk) hn hft
          exact W.putK hx hb (f := f) ⟨hown, hts _ hlink, ⟨_, _, _, hi⟩, hst⟩ (by rw [q2]; exact h6) q1 q3 (by rw [hsl]; exact k2_hasslot (q4 k hk)) rfl rfl hd fun H' g1 g2 g3 => kk H' _ (fin _ H' g1 g2 g3)
        · rw [if_pos hf] at hlay
          have hcf : m.cls = cf := by
            obtain ⟨_, _, c', _, _, _, -, -, hf', -, -, -, hown2, -⟩ := Cond.laysFinal_spec hlay
            have e9 : c' = cf := by have := hi.symm.trans hf'; simp at this; exact this.1.symm
            rw [hdecl] at hown2
            rw [← e9]; exact Option.some.inj (hown.symm.trans hown2)
          have h6 := u_fits hfc hkC hkind (Or.inr hlay) hi (hty k hk) hn hft
          exact W.putFinK hx hb hown (hts _ hlink) hi hst hcf hin2 (by rw [q2]; exact h6) q1 q3 (by rw [hsl]; exact k2_hasslot (q4 k hk)) rfl rfl hd fun H' g1 g2 g3 => kk H' _ (fin _ H' g1 g2 g3)
      · cases hs
    · cases hs
  · cases hs
theorem zz_new_ok (hx : p.tables.exec = Jvm.exec) (hb : c.code = cc) (hts : ∀ w ∈ Ts, w.before args s = true) (hG : zz_G cl tf Ts) (hown : s.vm.findClass own = some m.cls) (hK : va_K D cl (zz_tys dA) s) (hR : zz_R D cl B O dA H0 locs h H) {ci index : Nat} {q : vw_C} {fs0 : List Value} (hc : cl[ci]? = some q) (hfs : ∀ j, j < q.2.2 → defaultValue (tf ci j) = vp_V fs0 j) (hf0 : fs0.map (zz_v B O) = fs0) (hcl : Cond.classLink own index q.1 ∈ Ts) (hinst : Cond.instantiable q.1 q.2.2 ∈ Ts) (hini : Cond.initialized q.1 ∈ Ts)
    (hcells : cells + 1 ≤ R.cells) (hslots : slots + q.2.2 ≤ R.slots) (hd : decode cc pc = .ok (.new index, ln)) (hs : zz_new fs0 ci ln pc lv st h = some ((pc', lv', st'), h'))
    (kk : ∀ (H1 : Heap), zz_R D cl B O dA H0 locs h' H1 → W p l e R s m args below meth c H1 locs (cells + 1) (slots + q.2.2) Q (F0 m pc' ls (zz_s B O st'))) : W p l e R s m args below meth c H locs cells slots Q (F0 m pc ls (zz_s B O st)) ∧ lv' = lv := by
  unfold zz_new at hs
  split at hs
  · rename_i e0
    obtain ⟨e0, e1⟩ := e0
    subst e0
    cases hs
    refine ⟨?_, rfl⟩
    obtain ⟨hin, hty, hnm⟩ := hG _ _ hc
    have hKn := hK.1 ci _ hc
    refine W.newcK hx hb hown (hts _ hcl) (hts _ hinst) (hts _ hini) rfl hd hcells hslots hKn.2.1 hR.2.2.1 fun H1 kC hkC g1 z1 o1 => ?_
    have hR' : zz_R D cl B O dA H0 locs (h ++ [.inr (ci, fs0)]) H1 := hR.push e1 (by
      show ∃ r : vw_C, cl[ci]? = some r ∧ t_OB (B + h.length) (D.1 ci) r.2.2 (D.2 ci) H1 (vp_V (fs0.map (zz_v B O)))
      rw [hf0]
      exact ⟨_, hc, (u_born (tf ci) hts hin hKn hkC g1 hty).to hfs⟩) (by rw [z1, hR.2.2.1]) (fun x hx => o1 x (by rw [← hR.2.2.1]; exact hx))
    have := kk H1 hR'
    have hz : zz_s B O (.ref h.length :: st) = .ref (B + h.length) :: zz_s B O st := by
      show Value.ref (zz_a B O h.length) :: _ = _
      rw [zz_a_in e1]; rfl
    rw [hz] at this
    exact this
  · cases hs
theorem zz_newa_ok (hx : p.tables.exec = Jvm.exec) (hb : c.code = cc) (hts : ∀ w ∈ Ts, w.before args s = true) (hK : va_K D cl (zz_tys dA) s) (hR : zz_R D cl B O dA H0 locs h H) {ty : ArrayType} (harr : Cond.arrayClass (newarray.typeOf ty) ∈ Ts)
    (hd : decode cc pc = .ok (.newarray ty, ln)) (hs : zz_newa ty ln pc lv st h = some ((pc', lv', st'), h')) (hcells : cells + 1 ≤ R.cells) {ns : Nat} (hns : ∀ x, h' = h ++ [x] → zz_sz (fun _ => 0) x = ns) (hslots : slots + ns ≤ R.slots)
    (kk : ∀ (H1 : Heap), zz_R D cl B O dA H0 locs h' H1 → W p l e R s m args below meth c H1 locs (cells + 1) (slots + ns) Q (F0 m pc' ls (zz_s B O st'))) : W p l e R s m args below meth c H locs cells slots Q (F0 m pc ls (zz_s B O st)) ∧ lv' = lv := by
  unfold zz_newa at hs
  split at hs
  · rename_i n r
    split at hs
    · rename_i t d ht
      split at hs
      · rename_i e0
        obtain ⟨e0, e1, e2, e3⟩ := e0
        subst e0
        cases hs
        have hns := hns _ rfl
        have hns : n.toNatClampNeg = ns := hns
        subst hns
        refine ⟨?_, rfl⟩
        have fin : ∀ (t0 : FieldType), newarray.typeOf ty = t0 → ∀ (H1 : Heap) (cA : ClassId), H1[B + h.length]? = some (arrV cA n.toNatClampNeg (fun _ => defaultValue t0)) → s.vm.findClass ("[" ++ t0.toString) = some cA → H1[B + h.length]? = some (arrV cA n.toNatClampNeg (fun _ => defaultValue t0)) ∧ s.vm.findClass ("[" ++ t0.toString) = some cA := fun t0 _ H1 cA a b => ⟨a, b⟩
        have hbytes : n.toNatClampNeg * componentBytes (newarray.typeOf ty) ≤ 536870912 := by
          have : componentBytes (newarray.typeOf ty) ≤ 8 := by cases ty <;> decide
          exact Nat.le_trans (Nat.mul_le_mul e2 this) (by decide)
        refine va_newaK hx hb (hts _ harr) rfl hd rfl e1 rfl hbytes hcells hslots hR.2.2.1 fun H1 cA g1 z1 o1 hAr hNm => ?_
        have hz : zz_s B O (.ref h.length :: r) = .ref (B + h.length) :: zz_s B O r := by
          show Value.ref (zz_a B O h.length) :: _ = _
          rw [zz_a_in e3]; rfl
        have key : zz_R D cl B O dA H0 locs (h ++ [.inl (t, n.toNatClampNeg, d)]) H1 := by
          refine hR.push e3 ?_ (by rw [z1, hR.2.2.1]) (fun x hx => o1 x (by rw [← hR.2.2.1]; exact hx))
          cases ty
          all_goals (simp only [zz_at4] at ht)
          all_goals (cases ht)
          · have e9 : cA = dA 3 := Option.some.inj (hNm.symm.trans (hK.2 3 _ rfl).2)
            subst e9
            exact g1
          · have e9 : cA = dA 2 := Option.some.inj (hNm.symm.trans (hK.2 2 _ rfl).2)
            subst e9
            exact g1
          · have e9 : cA = dA 0 := Option.some.inj (hNm.symm.trans (hK.2 0 _ rfl).2)
            subst e9
            exact g1
          · have e9 : cA = dA 1 := Option.some.inj (hNm.symm.trans (hK.2 1 _ rfl).2)
            subst e9
            exact g1
        have := kk H1 key
        rw [hz] at this
        exact this
      · cases hs
    · cases hs
  · cases hs
end ZN
