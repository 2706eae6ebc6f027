/-! ===== the cells: their picture on the machine's heap ===== -/
/-- the kinds of arrays -/
def zz_ty : Nat → FieldType
  | 0 => .int
  | 1 => .long
  | 2 => .byte
  | 3 => .boolean
  | 4 => .object "TallySlate$Shelves"
  | 5 => .array .int
  | _ => .object "TallySlate$Word"
abbrev zz_tys (dA : Nat → ClassId) : List (ClassId × FieldType) := [(dA 0, .int), (dA 1, .long), (dA 2, .byte), (dA 3, .boolean), (dA 4, .object "TallySlate$Shelves"), (dA 5, .array .int)]
def zz_e (B : Nat) (O : Nat → Nat) (dA : Nat → ClassId) : zz_C → va_E
  | .inl (t, n, .inl f) => .inl (dA t, n, .inl f)
  | .inl (t, n, .inr (.inl f)) => .inl (dA t, n, .inr (.inl f))
  | .inl (t, n, .inr (.inr (.inl f))) => .inl (dA t, n, .inr (.inr (.inl f)))
  | .inl (t, n, .inr (.inr (.inr (.inl f)))) => .inl (dA t, n, .inr (.inr (.inr (.inl f))))
  | .inl (t, n, .inr (.inr (.inr (.inr f)))) => .inl (dA t, n, .inr (.inr (.inr (.inr (fun j => (f j).map (zz_a B O))))))
  | .inr (ci, fs) => .inr (ci, fs.map (zz_v B O))
def zz_w (B : Nat) (O : Nat → Nat) (dA : Nat → ClassId) (h : zz_H) : va_W := h.mapIdx fun k c => (B + k, zz_e B O dA c)
theorem zz_w_get (B : Nat) (O : Nat → Nat) (dA : Nat → ClassId) (h : zz_H) (k : Nat) : (zz_w B O dA h)[k]? = (h[k]?).map (fun c => (B + k, zz_e B O dA c)) := by
  unfold zz_w
  rw [List.getElem?_mapIdx]
theorem zz_w_at {B : Nat} {O : Nat → Nat} {dA : Nat → ClassId} {h : zz_H} {k : Nat} {x : zz_C} (hk : h[k]? = some x) : (zz_w B O dA h)[k]? = some (B + k, zz_e B O dA x) := by
  rw [zz_w_get, hk]; rfl
theorem zz_w_set (B : Nat) (O : Nat → Nat) (dA : Nat → ClassId) (h : zz_H) (k : Nat) (x : zz_C) : (zz_w B O dA h).set k (B + k, zz_e B O dA x) = zz_w B O dA (h.set k x) := by
  apply List.ext_getElem?
  intro j
  rw [zz_w_get, List.getElem?_set, List.getElem?_set, zz_w_get]
  have hlen : (zz_w B O dA h).length = h.length := by simp [zz_w]
  rw [hlen]
  by_cases hj : k = j
  · subst hj
    by_cases hk : k < h.length
    · simp [hk]
    · simp [hk]
  · simp [hj]
theorem zz_w_app (B : Nat) (O : Nat → Nat) (dA : Nat → ClassId) (h : zz_H) (x : zz_C) : zz_w B O dA h ++ [(B + h.length, zz_e B O dA x)] = zz_w B O dA (h ++ [x]) := by
  unfold zz_w
  rw [List.mapIdx_append]
  simp
theorem zz_wD (B : Nat) (O : Nat → Nat) (dA : Nat → ClassId) (h : zz_H) : va_D (fun q => B ≤ q) (zz_w B O dA h) := by
  constructor
  · intro i j x y hi hj hxy
    rw [zz_w_get] at hi hj
    cases e1 : h[i]? with
    | none => rw [e1] at hi; cases hi
    | some a =>
      cases e2 : h[j]? with
      | none => rw [e2] at hj; cases hj
      | some b =>
        rw [e1] at hi; rw [e2] at hj
        cases hi; cases hj
        simp at hxy
        exact hxy
  · intro k x hk
    rw [zz_w_get] at hk
    cases e1 : h[k]? with
    | none => rw [e1] at hk; cases hk
    | some a =>
      rw [e1] at hk
      cases hk
      exact Nat.le_add_right B k
/-- the slots that a cell takes -/
def zz_sz (nf : Nat → Nat) : zz_C → Nat
  | .inl (_, n, _) => n
  | .inr (ci, _) => nf ci
def zz_sl (nf : Nat → Nat) (h : zz_H) : Nat := (h.map (zz_sz nf)).sum
/-- the heap bears these cells from B on, nothing below has changed -/
def zz_R (D : va_G) (cl : List vw_C) (B : Nat) (O : Nat → Nat) (dA : Nat → ClassId) (H0 : Heap) (locs : List Loc) (h : zz_H) (H : Heap) : Prop := va_P D cl (zz_w B O dA h) H ∧ va_S (fun q => B ≤ q) H0 H locs ∧ H.size = B + h.length ∧ h.length ≤ zz_out ∧ B ≤ H0.size
/-- the tables' words on the classes -/
def zz_G (cl : List vw_C) (tf : Nat → Nat → FieldType) (Ts : List Cond) : Prop := ∀ (ci : Nat) (q : vw_C), cl[ci]? = some q → (∀ w ∈ u_ws q.1 q.2.1 q.2.2, w ∈ Ts) ∧ (∀ k, k < q.2.2 → parseFieldDescriptor (q.2.1 k).2.2.1 = some (tf ci k)) ∧ (∀ a, a < q.2.2 → ∀ b, b < q.2.2 → a ≠ b → (q.2.1 a).2.1 ≠ (q.2.1 b).2.1)
def zz_fit : FieldType → Value → Bool
  | .int, .int _ => true
  | .long, .long _ => true
  | .boolean, .int x => x == 0 || x == 1
  | .object _, .ref _ => true
  | .object _, .null => true
  | .array _, .ref _ => true
  | .array _, .null => true
  | _, _ => false
theorem zz_fit_ok {B : Nat} {O : Nat → Nat} {ty : FieldType} {v : Value} (h : zz_fit ty v = true) : narrow ty (zz_v B O v) = zz_v B O v ∧ fits ty (zz_v B O v) = true := by
  cases ty <;> cases v <;> simp [zz_fit] at h <;> (try exact ⟨rfl, rfl⟩)
  rcases h with h | h <;> subst h <;> exact ⟨rfl, rfl⟩
def zz_at (h : zz_H) (k : Nat) : Option zz_C := if k < zz_out then h[k]? else none
theorem zz_at_ok {h : zz_H} {k : Nat} {x : zz_C} (e : zz_at h k = some x) : k < zz_out ∧ h[k]? = some x := by
  unfold zz_at at e
  split at e
  · rename_i hk; exact ⟨hk, e⟩
  · cases e
theorem zz_a_in {B : Nat} {O : Nat → Nat} {k : Nat} (h : k < zz_out) : zz_a B O k = B + k := if_pos h
/-! fields -/
def zz_getf (ci k ln pc : Nat) (lv : List (Nat × Value)) (st : List Value) (h : zz_H) : Option (zz_F × zz_H) := match st with
  | .ref a :: r => match zz_at h a with
    | some (.inr (cj, fs)) => match fs[k]? with
      | some v => if ln = 3 ∧ cj = ci then some ((pc + 3, lv, v :: r), h) else none
      | none => none
    | _ => none
  | _ => none
def zz_putf (ty : FieldType) (ci k ln pc : Nat) (lv : List (Nat × Value)) (st : List Value) (h : zz_H) : Option (zz_F × zz_H) := match st with
  | v :: .ref a :: r => match zz_at h a with
    | some (.inr (cj, fs)) => if ln = 3 ∧ cj = ci ∧ k < fs.length ∧ zz_fit ty v = true then some ((pc + 3, lv, r), h.set a (.inr (cj, fs.set k v))) else none
    | _ => none
  | _ => none
section ZH
variable {p : Program} {l : Launch} {e : Env} {R : Room} {s : State} {m : MethodId} {args : Array Value} {below : List Frame} {meth : Method} {c : Code} {H : Heap} {locs : List Loc} {cells slots : Nat} {Q : State → Prop}
variable {cc : ByteArray} {B : Nat} {O : Nat → Nat} {D : va_G} {cl : List vw_C} {dA : Nat → ClassId} {H0 : Heap} {h h' : zz_H} {Ts : List Cond} {own : String} {tf : Nat → Nat → FieldType}
variable {ln pc pc' : Nat} {lv lv' : List (Nat × Value)} {st st' : List Value} {ls : Array Slot}
theorem zz_R.set (hR : zz_R D cl B O dA H0 locs h H) {H1 : Heap} {locs1 : List Loc} {k : Nat} {x : zz_C} (hP : va_P D cl (zz_w B O dA (h.set k x)) H1) (hS : va_S (fun q => B ≤ q) H0 H1 locs1) (hz : H1.size = H.size) : zz_R D cl B O dA H0 locs1 (h.set k x) H1 :=
  ⟨hP, hS, by rw [hz, List.length_set]; exact hR.2.2.1, by rw [List.length_set]; exact hR.2.2.2.1, hR.2.2.2.2⟩
theorem zz_getf_ok (hx : p.tables.exec = Jvm.exec) (hb : c.code = cc) (hts : ∀ w ∈ Ts, w.before args s = true) (hG : zz_G cl tf Ts) (hown : s.vm.findClass own = some m.cls) (hK : va_K D cl (zz_tys dA) s) (hR : zz_R D cl B O dA H0 locs h H) {ci k index : Nat} {q : vw_C} (hc : cl[ci]? = some q) (hk : k < q.2.2) (hlink : Cond.fieldLink own index (q.2.1 k).1 (q.2.1 k).2.1 (q.2.1 k).2.2.1 ∈ Ts)
    (hd : decode cc pc = .ok (.getfield index, ln)) (hs : zz_getf ci k ln pc lv st h = some ((pc', lv', st'), h'))
    (kk : W p l e R s m args below meth c H locs cells slots Q (F0 m pc' ls (zz_s B O st'))) : W p l e R s m args below meth c H locs cells slots Q (F0 m pc ls (zz_s B O st)) ∧ lv' = lv ∧ h' = h := by
  unfold zz_getf at hs
  split at hs
  · rename_i a r
    split at hs
    · rename_i cj fs ha
      split at hs
      · rename_i v hv
        split at hs
        · rename_i e0
          obtain ⟨e0, e1⟩ := e0
          subst e0; subst e1
          cases hs
          obtain ⟨ha1, ha2⟩ := zz_at_ok ha
          refine ⟨?_, rfl, rfl⟩
          show W p l e R s m args below meth c H locs cells slots Q (F0 m pc ls (.ref (zz_a B O a) :: zz_s B O r))
          rw [zz_a_in ha1]
          exact va_get (C := q.1) (T := q.2.1) (N := q.2.2) hx hb hts (hG _ _ hc).1 hown hK hR.1 a (zz_w_at ha2) hc k hk (hts _ hlink) (fun _ h9 => h9) (v := zz_v B O v) (by rw [List.getElem?_map, hv]; rfl) hd kk
        · cases hs
      · cases hs
    · cases hs
  · cases hs
end ZH
