/-! ===== PURE: THINGS of any depth brought to one depth ===== -/
def csP (v : Vw) : Pl := match v with
  | .inl z => .inl z
  | .inr (.inl r) => .inr (.inl r)
  | .inr (.inr (.inl q)) => .inr (.inr q)
  | .inr (.inr (.inr _)) => .inl 0
def cs : (m : Nat) → Nod → Th m
  | 0, x => csP (vw x)
  | m + 1, x => match vw x with
    | .inr (.inr (.inr l)) => (show Pl ⊕ List (Th m) from .inr (l.2.map fun y => cs m ⟨l.1, y⟩))
    | v => (show Pl ⊕ List (Th m) from .inl (csP v))
def mxL (l : List Nat) : Nat := l.foldr Nat.max 0
theorem mxL_le : ∀ {l : List Nat} {m : Nat}, mxL l ≤ m ↔ ∀ x ∈ l, x ≤ m
  | [], m => ⟨fun _ x h => (List.not_mem_nil h).elim, fun _ => Nat.zero_le _⟩
  | a :: l, m => by
    show Nat.max a (mxL l) ≤ m ↔ _
    rw [show (Nat.max a (mxL l) ≤ m) ↔ (a ≤ m ∧ mxL l ≤ m) from Nat.max_le, mxL_le (l := l)]
    exact ⟨fun h x hx => by
      obtain e | e := List.mem_cons.mp hx
      · rw [e]; exact h.1
      · exact h.2 x e, fun h => ⟨h a List.mem_cons_self, fun x hx => h x (List.mem_cons_of_mem _ hx)⟩⟩
/-- how deep PACKS stand in it -/
def dT : (n : Nat) → Th n → Nat
  | 0, _ => 0
  | n + 1, x => match (show Pl ⊕ List (Th n) from x) with
    | .inl _ => 0
    | .inr l => 1 + mxL (l.map (dT n))
def dN (x : Nod) : Nat := dT x.1 x.2
theorem dN_P : ∀ {x : Nod} {n : Nat} {l : List (Th n)}, vw x = vP n l → dN x = 1 + mxL (l.map (dT n))
  | ⟨0, p⟩, n, l, h => by obtain z | r | q := p <;> cases h
  | ⟨m + 1, x⟩, n, l, h => by
    obtain p | l' := x
    · obtain z | r | q := p <;> cases h
    · cases h
      rfl
theorem dN_0 : ∀ {x : Nod}, ¬ kdV (vw x) = 3 → dN x = 0
  | ⟨0, p⟩, h => rfl
  | ⟨m + 1, x⟩, h => by
    obtain p | l' := x
    · rfl
    · exact absurd rfl h
theorem vw_cs_p {m : Nat} {x : Nod} (h : ¬ kdV (vw x) = 3) : vw ⟨m, cs m x⟩ = vw x := by
  match m with
  | 0 =>
    show vwP (csP (vw x)) = vw x
    revert h
    generalize vw x = v
    intro h
    obtain z | r | q | l := v
    · rfl
    · rfl
    · rfl
    · exact absurd rfl h
  | m + 1 =>
    have e : cs (m + 1) x = (show Pl ⊕ List (Th m) from .inl (csP (vw x))) := by
      show (match vw x with
        | .inr (.inr (.inr l)) => (show Pl ⊕ List (Th m) from .inr (l.2.map fun y => cs m ⟨l.1, y⟩))
        | v => (show Pl ⊕ List (Th m) from .inl (csP v))) = _
      revert h
      generalize vw x = v
      intro h
      obtain z | r | q | l := v
      · rfl
      · rfl
      · rfl
      · exact absurd rfl h
    rw [e]
    show vwP (csP (vw x)) = vw x
    revert h
    generalize vw x = v
    intro h
    obtain z | r | q | l := v
    · rfl
    · rfl
    · rfl
    · exact absurd rfl h
theorem vw_cs_k {m n : Nat} {x : Nod} {l : List (Th n)} (h : vw x = vP n l) : vw ⟨m + 1, cs (m + 1) x⟩ = vP m (l.map fun y => cs m ⟨n, y⟩) := by
  have e : cs (m + 1) x = (show Pl ⊕ List (Th m) from .inr (l.map fun y => cs m ⟨n, y⟩)) := by
    show (match vw x with
      | .inr (.inr (.inr l)) => (show Pl ⊕ List (Th m) from .inr (l.2.map fun y => cs m ⟨l.1, y⟩))
      | v => (show Pl ⊕ List (Th m) from .inl (csP v))) = _
    rw [h]
  rw [e]
  rfl
/-- what is told of x and of what it is brought to -/
theorem cs_ind (Q : Nod → Nod → Prop) (hp : ∀ x y, ¬ kdV (vw x) = 3 → vw y = vw x → Q x y) (hk : ∀ (n m : Nat) (l : List (Th n)) (l' : List (Th m)) x y, l'.length = l.length → (∀ i (hi : i < l.length) (hi' : i < l'.length), Q ⟨n, l[i]⟩ ⟨m, l'[i]⟩) → vw x = vP n l → vw y = vP m l' → Q x y) : ∀ (m : Nat) (x : Nod), dN x ≤ m → Q x ⟨m, cs m x⟩ := by
  intro m
  induction m with
  | zero =>
    intro x h
    by_cases k : kdV (vw x) = 3
    · obtain ⟨n, l, e⟩ := kdV_3 k
      have := dN_P e
      omega
    · exact hp _ _ k (vw_cs_p k)
  | succ m ih =>
    intro x h
    by_cases k : kdV (vw x) = 3
    · obtain ⟨n, l, e⟩ := kdV_3 k
      have hd := dN_P e
      have hd : mxL (l.map (dT n)) ≤ m := by omega
      refine hk n m l (l.map fun y => cs m ⟨n, y⟩) _ _ (List.length_map _) (fun i hi hi' => ?_) e (vw_cs_k e)
      rw [List.getElem_map]
      exact ih ⟨n, l[i]⟩ (mxL_le.mp hd _ (List.mem_map.mpr ⟨_, List.getElem_mem hi, rfl⟩))
    · exact hp _ _ k (vw_cs_p k)
theorem map_eq {α β γ : Type} {f : α → γ} {g : β → γ} : ∀ {l : List α} {l' : List β}, l'.length = l.length → (∀ i (hi : i < l.length) (hi' : i < l'.length), f l[i] = g l'[i]) → l.map f = l'.map g := by
  intro l l' hl h
  refine List.ext_getElem (by rw [List.length_map, List.length_map, hl]) (fun i h1 h2 => ?_)
  rw [List.getElem_map, List.getElem_map]
  exact h i (by rw [List.length_map] at h1; exact h1) (by rw [List.length_map] at h2; exact h2)
abbrev serN (x : Nod) : List Int32 := ser x.1 x.2
abbrev bulkN (x : Nod) : Nat := bulk x.1 x.2
def bulkV : Vw → Nat
  | .inl _ => 1
  | .inr (.inl r) => 1 + r.length
  | .inr (.inr (.inl q)) => 1 + (q.map fun r => 1 + r.length).sum
  | .inr (.inr (.inr l)) => 1 + (l.2.map (bulk l.1)).sum
theorem vw_bulk : ∀ x : Nod, bulkN x = bulkV (vw x)
  | ⟨0, p⟩ => by obtain z | r | q := p <;> rfl
  | ⟨m + 1, x⟩ => by
    obtain p | l' := x
    · obtain z | r | q := p <;> rfl
    · rfl
theorem wf_vw : ∀ x : Nod, wfV (vw x) → wfT x.1 x.2
  | ⟨0, p⟩ => fun h => by obtain x | r | q := p <;> exact h
  | ⟨n + 1, x⟩ => fun h => by
    obtain p | l := x
    · obtain x | r | q := p <;> exact h
    · exact h
abbrev wfN (x : Nod) : Prop := wfT x.1 x.2
theorem cs_ser {m : Nat} {x : Nod} (h : dN x ≤ m) : ser m (cs m x) = serN x := by
  refine (cs_ind (fun x y => serN x = serN y) (fun x y _ e => ?_) (fun n m l l' x y hl hi e e' => ?_) m x h).symm
  · show ser x.1 x.2 = ser y.1 y.2
    rw [vw_ser x, vw_ser y, e]
  · show ser x.1 x.2 = ser y.1 y.2
    rw [vw_ser x, vw_ser y, e, e']
    show (3 : Int32) :: Int32.ofNat l.length :: l.flatMap (ser n) = 3 :: Int32.ofNat l'.length :: l'.flatMap (ser m)
    rw [hl, List.flatMap_def, List.flatMap_def, map_eq (f := ser n) (g := ser m) hl hi]
theorem cs_bulk {m : Nat} {x : Nod} (h : dN x ≤ m) : bulk m (cs m x) = bulkN x := by
  refine (cs_ind (fun x y => bulkN x = bulkN y) (fun x y _ e => ?_) (fun n m l l' x y hl hi e e' => ?_) m x h).symm
  · rw [vw_bulk x, vw_bulk y, e]
  · rw [vw_bulk x, vw_bulk y, e, e']
    show 1 + (l.map (bulk n)).sum = 1 + (l'.map (bulk m)).sum
    rw [map_eq (f := bulk n) (g := bulk m) hl hi]
theorem cs_d {m : Nat} {x : Nod} (h : dN x ≤ m) : dT m (cs m x) = dN x := by
  refine (cs_ind (fun x y => dN x = dN y) (fun x y k e => ?_) (fun n m l l' x y hl hi e e' => ?_) m x h).symm
  · rw [dN_0 k, dN_0 (x := y) (by rw [e]; exact k)]
  · rw [dN_P e, dN_P e', map_eq (f := dT n) (g := dT m) hl hi]
theorem cs_wf {m : Nat} {x : Nod} (h : dN x ≤ m) (hw : wfN x) : wfT m (cs m x) := by
  refine cs_ind (fun x y => bulkN x = bulkN y ∧ (wfN x → wfN y)) (fun x y _ e => ⟨by rw [vw_bulk x, vw_bulk y, e], fun w => wf_vw y (by rw [e]; exact vw_wf x w)⟩) (fun n m l l' x y hl hi e e' => ?_) m x h |>.2 hw
  have hb := map_eq (f := bulk n) (g := bulk m) hl (fun i a b => (hi i a b).1)
  refine ⟨?_, fun w => wf_vw y ?_⟩
  · rw [vw_bulk x, vw_bulk y, e, e']
    show 1 + (l.map (bulk n)).sum = 1 + (l'.map (bulk m)).sum
    rw [hb]
  · have w := vw_wf x w
    rw [e] at w
    rw [e']
    obtain ⟨w1, w2, w3⟩ := (show l.length ≤ 20 ∧ 1 + (l.map (bulk n)).sum ≤ 600 ∧ ∀ y ∈ l, wfT n y from w)
    refine ⟨by show l'.length ≤ 20; omega, by show 1 + (l'.map (bulk m)).sum ≤ 600; rw [← hb]; exact w2, fun z hz => ?_⟩
    obtain ⟨i, h1, h2⟩ := List.getElem_of_mem hz
    rw [← h2]
    have h1 : i < l'.length := h1
    exact (hi i (by omega) h1).2 (w3 _ (List.getElem_mem _))
theorem cs_int {m : Nat} {x : Nod} (h : dN x ≤ m) : intT m (cs m x) = intV (vw x) := by
  refine (cs_ind (fun x y => intV (vw x) = intT y.1 y.2) (fun x y _ e => ?_) (fun n m l l' x y hl hi e e' => ?_) m x h).symm
  · rw [vw_int y, e]
  · rw [vw_int y, e, e']
    rfl
theorem cs_lay {m : Nat} {x : Nod} {g : Nat → Int32} {R : Nat → Prop} (h : dN x ≤ m) : ∀ {a : Nat}, LayN g R a x → LayN g R a ⟨m, cs m x⟩ := by
  refine (cs_ind (fun x y => intV (vw x) = intV (vw y) ∧ ∀ a : Nat, LayN g R a x → LayN g R a y) (fun x y _ e => ⟨by rw [e], fun a w => ?_⟩) (fun n m l l' x y hl hi e e' => ⟨by rw [e, e']; rfl, fun a w => ?_⟩) m x h).2 _
  · rw [LayN_iff] at w ⊢
    rw [e]
    exact w
  · rw [LayN_iff] at w ⊢
    rw [e] at w
    rw [e']
    obtain ⟨w1, w2, w3, w4⟩ := w
    have w3 : g (a + 1) = Int32.ofNat l.length := w3
    refine ⟨fun y hy1 hy2 => w1 y hy1 ?_, w2, by show g (a + 1) = Int32.ofNat l'.length; rw [hl]; exact w3, fun i hi' => ?_⟩
    · have hy2 : y < a + (2 + 2 * l'.length) := hy2
      show y < a + (2 + 2 * l.length)
      omega
    · have hl' : i < l.length := by omega
      obtain ⟨v1, v2⟩ := w4 i hl'
      obtain ⟨u1, u2⟩ := hi i hl' hi'
      have ei : intT m l'[i] = intT n l[i] := by rw [show intT m l'[i] = _ from vw_int ⟨m, l'[i]⟩, show intT n l[i] = _ from vw_int ⟨n, l[i]⟩, u1]
      refine ⟨fun z hz => v1 z (ei.symm.trans hz), fun hz => ?_⟩
      obtain ⟨b1, c, b2, b3⟩ := v2 (ei.symm.trans hz)
      exact ⟨b1, c, b2, u2 c b3⟩
