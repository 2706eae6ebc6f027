/-! ===== PURE: a THING's parts, and what is built of them again ===== -/
abbrev nZ (z : Int32) : Nod := ⟨0, .inl z⟩
def ptsV : Vw → List Nod
  | .inl _ => []
  | .inr (.inl r) => r.map nZ
  | .inr (.inr (.inl q)) => q.map nR
  | .inr (.inr (.inr l)) => l.2.map fun y => ⟨l.1, y⟩
abbrev pts (x : Nod) : List Nod := ptsV (vw x)
theorem pts_len {x : Nod} : (pts x).length = szN x := by
  show (ptsV (vw x)).length = szV (vw x)
  generalize vw x = v
  obtain z | r | q | l := v
  · rfl
  · exact List.length_map _
  · exact List.length_map _
  · exact List.length_map _
theorem cs_ci {g : Nat → Int64} {u m : Nat} {x : Nod} (h : dN x ≤ m) {v : Int64} : cN g u v x ↔ cN g u v ⟨m, cs m x⟩ := by
  refine (cs_ind (fun x y => bulkN x = bulkN y ∧ dN x = dN y ∧ ∀ v, cN g u v x ↔ cN g u v y) (fun x y k e => ⟨by rw [vw_bulk x, vw_bulk y, e], by rw [dN_0 k, dN_0 (x := y) (by rw [e]; exact k)], fun v => by rw [cN_iff, cN_iff, e]⟩) (fun n m l l' x y hl hi e e' => ?_) m x h).2.2 v
  have hb := map_eq (f := bulk n) (g := bulk m) hl (fun i a b => (hi i a b).1)
  have hd := map_eq (f := dT n) (g := dT m) hl (fun i a b => (hi i a b).2.1)
  refine ⟨?_, ?_, fun v => ?_⟩
  · rw [vw_bulk x, vw_bulk y, e, e']
    show 1 + (l.map (bulk n)).sum = 1 + (l'.map (bulk m)).sum
    rw [hb]
  · rw [dN_P e, dN_P e', hd]
  · rw [cN_iff, cN_iff, e, e']
    constructor
    · intro w
      obtain ⟨a, h1, h2, h3, h4, h5, h6⟩ := w
      exact ⟨a, h1, by omega, by rw [hl]; exact h3, by rw [← hb]; exact h4, by rw [← hd]; exact h5, fun i hi' => ((hi i (by omega) hi').2.2 _).mp (h6 i (by omega))⟩
    · intro w
      obtain ⟨a, h1, h2, h3, h4, h5, h6⟩ := w
      exact ⟨a, h1, by omega, by rw [← hl]; exact h3, by rw [hb]; exact h4, by rw [hd]; exact h5, fun i hi' => ((hi i hi' (by omega)).2.2 _).mpr (h6 i (by omega))⟩
theorem cN_vw {g : Nat → Int64} {u : Nat} {v : Int64} {x y : Nod} (h : vw x = vw y) : cN g u v x ↔ cN g u v y := by
  rw [cN_iff, cN_iff, h]
theorem map_iv (r : List Int32) : (r.map nZ).map ivN = r := by
  rw [List.map_map]
  exact List.map_id r
theorem map_rv (q : List (List Int32)) : (q.map nR).map rvN = q := by
  rw [List.map_map]
  exact List.map_id q
/-- a THING built of its own parts -/
theorem mk_pts {x : Nod} {k : Nat} (hw : wfN x) (hd : dN x ≤ 4) (hk : kdN x = Int32.ofNat k) (h3 : 1 ≤ k) (h4 : k ≤ 3) : mkOk k (pts x) ∧ ∃ y, mk k (pts x) = some y ∧ ∀ g u v, cN g u v y ↔ cN g u v x := by
  have hw := vw_wf x hw
  have hv : ∀ (y : Nod) g u v, vw y = vw x → (cN g u v y ↔ cN g u v x) := fun y g u v e => cN_vw e
  have hP := fun (n : Nat) (l : List (Th n)) (e : vw x = vP n l) => dN_P e
  have hC := fun g u v => cs_ci (g := g) (u := u) (v := v) hd
  have hk : kdV (vw x) = Int32.ofNat k := hk
  have hcs := fun (n : Nat) (l : List (Th n)) (e : vw x = vP n l) => vw_cs_k (m := 3) e
  show mkOk k (ptsV (vw x)) ∧ ∃ y, mk k (ptsV (vw x)) = some y ∧ _
  generalize vw x = V at *
  obtain z | r | q | ⟨n, l⟩ := V
  · have := ofNat_inj (a := 0) (by omega) (by omega) hk
    omega
  · have e : 1 = k := ofNat_inj (a := 1) (by omega) (by omega) hk
    subst e
    refine ⟨Or.inl ⟨rfl, fun y hy => ?_⟩, mkR (r.map nZ), ?_, fun g u v => hv _ g u v ?_⟩
    · obtain ⟨z, -, rfl⟩ := List.mem_map.mp hy
      rfl
    · unfold mk
      rw [if_pos rfl, if_pos (by show (r.map nZ).length ≤ 64; rw [List.length_map]; exact hw)]
      rfl
    · show vR ((r.map nZ).map ivN) = _
      rw [map_iv]
  · have e : 2 = k := ofNat_inj (a := 2) (by omega) (by omega) hk
    subst e
    refine ⟨Or.inr (Or.inl ⟨rfl, fun y hy => ?_⟩), mkT (q.map nR), ?_, fun g u v => hv _ g u v ?_⟩
    · obtain ⟨z, -, rfl⟩ := List.mem_map.mp hy
      rfl
    · unfold mk
      rw [if_neg (by decide), if_pos rfl, if_pos]
      · rfl
      · refine ⟨by show (q.map nR).length ≤ 20; rw [List.length_map]; exact hw.1, ?_⟩
        show ((q.map nR).map szN).sum ≤ 200
        rw [List.map_map]
        exact hw.2.1
    · show vT ((q.map nR).map rvN) = _
      rw [map_rv]
  · have e : 3 = k := ofNat_inj (a := 3) (by omega) (by omega) hk
    subst e
    have hd' := hP n l rfl
    have hb : ((l.map fun y => (⟨n, y⟩ : Nod)).map bulkN) = l.map (bulk n) := by
      rw [List.map_map]
      rfl
    have hdd : ((l.map fun y => (⟨n, y⟩ : Nod)).map dN) = l.map (dT n) := by
      rw [List.map_map]
      rfl
    refine ⟨Or.inr (Or.inr rfl), mkP (l.map fun y => ⟨n, y⟩), ?_, fun g u v => ?_⟩
    · unfold mk
      rw [if_neg (by decide), if_neg (by decide), if_pos]
      · rfl
      · refine ⟨by show (l.map fun y => (⟨n, y⟩ : Nod)).length ≤ 20; rw [List.length_map]; exact hw.1, ?_, ?_⟩
        · show 1 + ((l.map fun y => (⟨n, y⟩ : Nod)).map bulkN).sum ≤ 600
          rw [hb]
          exact hw.2.1
        · show 1 + mxL ((l.map fun y => (⟨n, y⟩ : Nod)).map dN) ≤ 4
          rw [hdd]
          omega
    · rw [hC g u v]
      refine cN_vw ?_
      rw [hcs n l rfl]
      show vP 3 ((l.map fun y => (⟨n, y⟩ : Nod)).map (cs 3)) = _
      rw [List.map_map]
      rfl
theorem cN.kd {g : Nat → Int64} {u : Nat} {v : Int64} {x : Nod} (h : cN g u v x) : ∃ a : Int32, v = tg (kdN x) a := by
  have h := cN_iff.mp h
  show ∃ a : Int32, v = tg (kdV (vw x)) a
  generalize vw x = V at h
  obtain z | r | q | ⟨n, l⟩ := V
  · exact ⟨z, h⟩
  · obtain ⟨a, h, -⟩ := h
    exact ⟨_, h⟩
  · obtain ⟨a, h, -⟩ := h
    exact ⟨_, h⟩
  · obtain ⟨a, h, -⟩ := h
    exact ⟨_, h⟩
