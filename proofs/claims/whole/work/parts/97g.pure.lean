/-! ===== PURE: run (60): same: what it asks; the class ===== -/
section SAM
variable {N : Nat} {X : Nat → Option zz_C} {t t' : cS} {u w : Nat} {x y : Nod} {vx vy : Int64}
theorem serN_pre (wx : wfN x) (wy : wfN y) (dx : x.1 ≤ 4) (dy : y.1 ≤ 4) {l l' : List Int32} (h : serN x ++ l = serN y ++ l') : serN x = serN y ∧ l = l' := by
  have d1 : dN x ≤ 4 := Nat.le_trans (dT_le _ _) dx
  have d2 : dN y ≤ 4 := Nat.le_trans (dT_le _ _) dy
  have e1 := cs_ser d1
  have e2 := cs_ser d2
  rw [← e1, ← e2] at h ⊢
  exact ser_pre 4 _ _ l l' (cs_wf d1 wx) (cs_wf d2 wy) h
theorem flatN_pre : ∀ (l l' : List Nod), l.length = l'.length → (∀ z ∈ l, wfN z ∧ z.1 ≤ 4) → (∀ z ∈ l', wfN z ∧ z.1 ≤ 4) → (l.flatMap serN = l'.flatMap serN ↔ ∀ i (hi : i < l.length) (hi' : i < l'.length), serN l[i] = serN l'[i])
  | [], [], _, _, _ => ⟨fun _ i hi => absurd hi (Nat.not_lt_zero _), fun _ => rfl⟩
  | [], _ :: _, h, _, _ => by cases h
  | _ :: _, [], h, _, _ => by cases h
  | a :: l, b :: l', h, h1, h2 => by
    have hl : l.length = l'.length := Nat.succ.inj h
    have ih := flatN_pre l l' hl (fun z hz => h1 z (List.mem_cons_of_mem _ hz)) (fun z hz => h2 z (List.mem_cons_of_mem _ hz))
    have ha := h1 a List.mem_cons_self
    have hb := h2 b List.mem_cons_self
    rw [List.flatMap_cons, List.flatMap_cons]
    constructor
    · intro e i hi hi'
      obtain ⟨e1, e2⟩ := serN_pre ha.1 hb.1 ha.2 hb.2 e
      cases i with
      | zero => exact e1
      | succ i => exact ih.mp e2 i (Nat.lt_of_succ_lt_succ hi) (Nat.lt_of_succ_lt_succ hi')
    · intro e
      have e1 := e 0 (Nat.succ_pos _) (Nat.succ_pos _)
      have e1 : serN a = serN b := e1
      rw [e1, ih.mpr (fun i hi hi' => e (i + 1) (Nat.succ_lt_succ hi) (Nat.succ_lt_succ hi'))]
theorem ser_fl (h0 : ¬ kn x = 0) : ∃ g : List Nod → List Int32, serN x = Int32.ofNat (kn x) :: Int32.ofNat (szN x) :: g (pts x) ∧ g = (if kn x = 1 then fun l => l.map ivN else if kn x = 2 then fun l => l.flatMap fun z => serRow (rvN z) else fun l => l.flatMap serN) := by
  refine ⟨_, ?_, rfl⟩
  have lx := kn_le (x := x)
  show ser x.1 x.2 = _
  rw [vw_ser x]
  show serV (vw x) = Int32.ofNat (knV (vw x)) :: Int32.ofNat (szV (vw x)) :: _
  have h0 : ¬ knV (vw x) = 0 := h0
  show serV (vw x) = Int32.ofNat (knV (vw x)) :: Int32.ofNat (szV (vw x)) :: (if knV (vw x) = 1 then fun l => l.map ivN else if knV (vw x) = 2 then fun l => l.flatMap fun z => serRow (rvN z) else fun l => l.flatMap serN) (ptsV (vw x))
  revert h0
  generalize vw x = V
  intro h0
  obtain z | r | q | ⟨k, l⟩ := V
  · exact absurd rfl h0
  · show 1 :: serRow r = 1 :: Int32.ofNat r.length :: (r.map nZ).map ivN
    rw [List.map_map]
    have e : (ivN ∘ nZ) = id := rfl
    rw [e, List.map_id]
    rfl
  · show 2 :: Int32.ofNat q.length :: q.flatMap serRow = 2 :: Int32.ofNat q.length :: (q.map nR).flatMap fun z => serRow (rvN z)
    rw [List.flatMap_map]
    rfl
  · show 3 :: Int32.ofNat l.length :: l.flatMap (ser k) = 3 :: Int32.ofNat l.length :: (l.map fun y => (⟨k, y⟩ : Nod)).flatMap serN
    rw [List.flatMap_map]
theorem ser_0 (h0 : kn x = 0) : serN x = [0, ivN x] := by
  show ser x.1 x.2 = _
  rw [vw_ser x, kn0 h0]
  rfl
theorem ser_hd : ∃ l, serN x = Int32.ofNat (kn x) :: l := by
  by_cases c : kn x = 0
  · rw [ser_0 c, c]
    exact ⟨_, rfl⟩
  · obtain ⟨g, e, -⟩ := ser_fl c
    exact ⟨_, e⟩
/-- alike: kind, size, and part by part -/
theorem ser_iff (wx : wfN x) (wy : wfN y) (dx : x.1 ≤ 4) (dy : y.1 ≤ 4) (hk : kn x = kn y) (h0 : ¬ kn x = 0) : serN x = serN y ↔ (szN x = szN y ∧ ∀ i (hi : i < (pts x).length) (hi' : i < (pts y).length), serN (pts x)[i] = serN (pts y)[i]) := by
  obtain ⟨g, e1, eg⟩ := ser_fl h0
  obtain ⟨g', e2, eg'⟩ := ser_fl (x := y) (by rw [← hk]; exact h0)
  have lx := kn_le (x := x)
  have s1 := wf64 wx
  have s2 := wf64 wy
  have hgg : g' = g := by rw [eg, eg', hk]
  rw [e1, e2, hgg, ← hk]
  have hpx : (pts x).length = szN x := pts_len
  have hpy : (pts y).length = szN y := pts_len
  have core : szN x = szN y → (g (pts x) = g (pts y) ↔ ∀ i (hi : i < (pts x).length) (hi' : i < (pts y).length), serN (pts x)[i] = serN (pts y)[i]) := fun hs => by
    have hl : (pts x).length = (pts y).length := by omega
    rw [eg]
    by_cases c1 : kn x = 1
    · rw [if_pos c1]
      have z1 : ∀ i (hi : i < (pts x).length), kn (pts x)[i] = 0 := fun i hi => (kd_iff (k := 0) (by omega)).mp ((pts_kd (List.getElem_mem hi)).1 c1)
      have z2 : ∀ i (hi : i < (pts y).length), kn (pts y)[i] = 0 := fun i hi => (kd_iff (k := 0) (by omega)).mp ((pts_kd (List.getElem_mem hi)).1 (by omega))
      constructor
      · intro e i hi hi'
        have e : (pts x).map ivN = (pts y).map ivN := e
        rw [ser_0 (z1 i hi), ser_0 (z2 i hi')]
        have e3 : ((pts x).map ivN)[i]? = ((pts y).map ivN)[i]? := by rw [e]
        rw [List.getElem?_map, List.getElem?_map, List.getElem?_eq_getElem hi, List.getElem?_eq_getElem hi'] at e3
        have e3 : ivN (pts x)[i] = ivN (pts y)[i] := Option.some.inj e3
        rw [e3]
      · intro e
        show (pts x).map ivN = (pts y).map ivN
        apply List.ext_getElem
        · rw [List.length_map, List.length_map, hl]
        · intro i h1 h2
          rw [List.length_map] at h1 h2
          rw [List.getElem_map, List.getElem_map]
          have e3 := e i h1 h2
          rw [ser_0 (z1 i h1), ser_0 (z2 i h2)] at e3
          exact (List.cons.inj (List.cons.inj e3).2).1
    · rw [if_neg c1]
      by_cases c2 : kn x = 2
      · rw [if_pos c2]
        have f : ∀ z : Nod, kn z = 1 → serN z = 1 :: serRow (rvN z) := fun z hz => by
          show ser z.1 z.2 = _
          rw [vw_ser z, kn1 hz]
          rfl
        have ex : pts x = (tvN x).map nR := by
          show ptsV (vw x) = _
          rw [kn2' c2]
          rfl
        have ey : pts y = (tvN y).map nR := by
          show ptsV (vw y) = _
          rw [kn2' (by omega)]
          rfl
        have t1 := tv_wf c2 wx
        have t2 := tv_wf (x := y) (by omega) wy
        have hlt : (tvN x).length = (tvN y).length := by
          rw [ex, ey, List.length_map, List.length_map] at hl
          exact hl
        have e0 : ∀ q : List (List Int32), (q.map nR).flatMap (fun z => serRow (rvN z)) = q.flatMap serRow := fun q => by
          rw [List.flatMap_map]
          rfl
        constructor
        · intro e i hi hi'
          have e : (pts x).flatMap (fun z => serRow (rvN z)) = (pts y).flatMap (fun z => serRow (rvN z)) := e
          rw [ex, ey, e0, e0] at e
          have e2 := (tab_pre (l := []) (l' := []) hlt t1.2.2 t2.2.2 (by rw [List.append_nil, List.append_nil]; exact e)).1
          simp only [ex, ey, e2]
        · intro e
          show (pts x).flatMap (fun z => serRow (rvN z)) = (pts y).flatMap (fun z => serRow (rvN z))
          rw [ex, ey, e0, e0]
          congr 1
          apply List.ext_getElem hlt
          intro i h1 h2
          have e3 := e i (by rw [ex, List.length_map]; exact h1) (by rw [ey, List.length_map]; exact h2)
          simp only [ex, ey, List.getElem_map] at e3
          rw [f _ rfl, f _ rfl] at e3
          exact (List.cons.inj (List.cons.inj e3).2).2
      · rw [if_neg c2]
        exact flatN_pre (pts x) (pts y) hl (fun z hz => ⟨wf_pts wx z hz, Nat.le_trans (pts_lv z hz) dx⟩) (fun z hz => ⟨wf_pts wy z hz, Nat.le_trans (pts_lv z hz) dy⟩)
  constructor
  · intro e
    have e := (List.cons.inj e).2
    have hs : szN x = szN y := ofNat_inj (by omega) (by omega) (List.cons.inj e).1
    exact ⟨hs, (core hs).mp (List.cons.inj e).2⟩
  · rintro ⟨hs, e⟩
    rw [hs, (core hs).mpr e]
end SAM
