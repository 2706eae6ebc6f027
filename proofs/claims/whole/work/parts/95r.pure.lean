/-! ===== PURE: run (19): parts ===== -/
/-- a PLACE of a THING of n parts -/
def inr (n : Nat) (z : Int32) : Bool := decide (¬ z < 0) && decide (z.toNatClampNeg < n)
def pkd (x : Nod) (z : Int32) : Nod := ((pts x)[z.toNatClampNeg]?).getD (nZ 0)
theorem i32nn {z : Int32} (h : ¬ z < 0) : ∃ p : Nat, p < 2147483648 ∧ z = Int32.ofNat p := by
  refine ⟨z.toInt.toNat, ?_, ?_⟩
  · have := z.toInt_lt
    omega
  · have h0 : 0 ≤ z.toInt := by
      rw [Int32.lt_iff_toInt_lt] at h
      exact Int.not_lt.mp h
    apply Int32.toInt_inj.mp
    rw [Int32.toInt_ofNat_of_lt (by have := z.toInt_lt; omega)]
    omega
theorem inr_n {z : Int32} {n : Nat} (h : z < 0) : inr n z = false := by
  unfold inr
  rw [decide_eq_false (fun q => q h), Bool.false_and]
theorem inr_o {p n : Nat} (h : p < 2147483648) : inr n (Int32.ofNat p) = decide (p < n) := by
  unfold inr
  rw [decide_eq_true (i32n h), Bool.true_and, ev_S.1 h]
theorem pkd_o {x : Nod} {p : Nat} (hp : p < (pts x).length) (h : p < 2147483648) : pkd x (Int32.ofNat p) = (pts x)[p] := by
  unfold pkd
  rw [ev_S.1 h, List.getElem?_eq_getElem hp]
  rfl
theorem pts_lv : ∀ {x : Nod}, ∀ y ∈ pts x, y.1 ≤ x.1
  | ⟨0, p⟩ => by
    intro y hy
    obtain z | r | q := p
    · cases hy
    · obtain ⟨z, -, rfl⟩ := List.mem_map.mp (show y ∈ r.map nZ from hy)
      exact Nat.le_refl _
    · obtain ⟨z, -, rfl⟩ := List.mem_map.mp (show y ∈ q.map nR from hy)
      exact Nat.le_refl _
  | ⟨n + 1, p⟩ => by
    intro y hy
    obtain (z | r | q) | l := p
    · cases hy
    · obtain ⟨z, -, rfl⟩ := List.mem_map.mp (show y ∈ r.map nZ from hy)
      exact Nat.zero_le _
    · obtain ⟨z, -, rfl⟩ := List.mem_map.mp (show y ∈ q.map nR from hy)
      exact Nat.zero_le _
    · obtain ⟨z, -, rfl⟩ := List.mem_map.mp (show y ∈ l.map (fun y => (⟨n, y⟩ : Nod)) from hy)
      exact Nat.le_succ _
theorem pts_ok {x : Nod} {ys : List Nod} (h0 : ¬ kn x = 0) (h : ∀ y ∈ ys, y ∈ pts x) : mkOk (kn x) ys := by
  have h0 : ¬ knV (vw x) = 0 := h0
  have h : ∀ y ∈ ys, y ∈ ptsV (vw x) := h
  show mkOk (knV (vw x)) ys
  revert h0 h
  generalize vw x = V
  intro h0 h
  obtain z | r | q | l := V
  · exact absurd rfl h0
  · refine Or.inl ⟨rfl, fun y hy => ?_⟩
    obtain ⟨z, -, rfl⟩ := List.mem_map.mp (show y ∈ r.map nZ from h y hy)
    rfl
  · refine Or.inr (Or.inl ⟨rfl, fun y hy => ?_⟩)
    obtain ⟨z, -, rfl⟩ := List.mem_map.mp (show y ∈ q.map nR from h y hy)
    rfl
  · exact Or.inr (Or.inr rfl)
theorem pkd_mem {x : Nod} {z : Int32} (h : inr (szN x) z = true) : pkd x z ∈ pts x := by
  unfold inr at h
  rw [Bool.and_eq_true, decide_eq_true_iff, decide_eq_true_iff] at h
  obtain ⟨p, hp, rfl⟩ := i32nn h.1
  have h2 := h.2
  rw [ev_S.1 hp] at h2
  have : p < (pts x).length := by rw [pts_len]; exact h2
  rw [pkd_o this hp]
  exact List.getElem_mem this
theorem kn1 {x : Nod} (h : kn x = 1) : vw x = vR (rvN x) := kd1 ((kd_iff (k := 1) (by omega)).mpr h)
theorem kn0 {x : Nod} (h : kn x = 0) : vw x = .inl (ivN x) := kd0 ((kd_iff (k := 0) (by omega)).mpr h)
theorem kn1_sz {x : Nod} (h : kn x = 1) : szN x = (rvN x).length := szR ((kd_iff (k := 1) (by omega)).mpr h)
theorem wf64 {x : Nod} (hw : wfN x) : szN x ≤ 64 := by rw [← pts_len]; exact sz64 hw
def ansI (x y : Nod) : Ans := if kn x = 0 ∨ 1 < kn y then .inl 3 else if kn y = 0 then (if inr (szN x) (ivN y) = true then .inr (pkd x (ivN y)) else .inl 5) else if (rvN y).all (inr (szN x)) = true then ansM (kn x) ((rvN y).map (pkd x)) else .inl 5
section GIV
variable {N k : Nat} {s s' : mS} {n f f' m : Nat} {x y : Nod} {xs : List Nod}
/-- an INT was laid on the stack: that is the end -/
theorem rG.int (H : rA s n f m xs) (G : rG s s' n f f [x]) (h0 : kn x = 0) : rE s s' n f m (.inr x) := by
  obtain ⟨H1, H2, H3, H4, H5, -⟩ := H
  obtain ⟨⟨g1, g2, g3⟩, g4, g5, g6, g7, g8⟩ := G
  have hc : ctV (vw x) = 0 := by rw [kn0 h0]; rfl
  refine ⟨f, Nat.le_refl _, g2, g5, by omega, g1, ?_, ?_, ?_⟩
  · exact g4 0 (Nat.lt_succ_self 0)
  · rw [hc, g6, H4]
    rfl
  · rw [hc, if_pos (by omega)]
    exact ⟨g7, g8⟩
theorem vfr.pus {k v : Int32} (h : vfr n f s s') : vfr n f s (pus s' n k v) := by
  refine ⟨⟨fun q r => ?_, h.1.2.1, fun q r => ?_, h.1.2.2.2⟩, fun y hy => ⟨?_, ?_⟩, h.2.2⟩
  · show (if q = 51 then _ else s'.1 q) = _
    rw [if_neg (fun z => r (by unfold vfI; omega))]
    exact h.1.1 q r
  · show (if q = 50 then _ else if q = 49 then _ else s'.2.2.1 q) = _
    rw [if_neg (fun z => r (by unfold vfA; omega)), if_neg (fun z => r (by unfold vfA; omega))]
    exact h.1.2.2.1 q r
  · show (if y = n then _ else s'.2.2.1 49 y) = _
    rw [if_neg (by omega)]
    exact (h.2.1 y hy).1
  · show (if y = n then _ else s'.2.2.1 50 y) = _
    rw [if_neg (by omega)]
    exact (h.2.1 y hy).2
theorem vfr.set {q : Nat} (hq : vfI q) {z : Int32} (h : vfr n f s s') : vfr n f s (mI s' q z) := by
  refine ⟨⟨fun p r => ?_, h.1.2.1, h.1.2.2.1, h.1.2.2.2⟩, h.2.1, h.2.2⟩
  show (if p = q then _ else s'.1 p) = _
  rw [if_neg (fun z => r (by rw [z]; exact hq))]
  exact h.1.1 p r
theorem rG.give (hN : 170000 ≤ N) (H : rA s n f m xs) (G : rG s s' n f f [x]) (h0 : ¬ kn x = 0) (hw : wfN x) : ∃ s'', mf_303 N (s'.2.2.1 50 n) (mI s' 51 (Int32.ofNat n)) = some (s'', none) ∧ rE s s'' n f m (.inr x) := by
  obtain ⟨H1, H2, H3, H4, H5, H6, H7, H8, H9⟩ := H
  obtain ⟨⟨g1, g2, g3⟩, g4, g5, g6, g7, g8⟩ := G
  have hx := g4 0 (Nat.lt_succ_self 0)
  have hx : rvl (s'.2.2.1 47) f (s'.2.2.1 49 n) (s'.2.2.1 50 n) x := hx
  rcases rvl.kz hx with ⟨-, z⟩ | ⟨k1, -, a, k3, k4⟩
  · exact absurd z h0
  have hcv : ctV (vw x) ≤ 700 := by
    have hw' := vw_wf x hw
    revert hw'
    generalize vw x = V
    obtain z | r | q | l := V
    · intro _
      exact Nat.zero_le _
    · intro h
      have h : r.length ≤ 64 := h
      show 4 + r.length ≤ 700
      omega
    · intro h
      obtain ⟨h1, h2, -⟩ := h
      show 4 + (q.map fun r => 4 + r.length).sum ≤ 700
      have : ∀ q : List (List Int32), (q.map fun r => 4 + r.length).sum = 4 * q.length + (q.map List.length).sum := fun q => by
        induction q with
        | nil => rfl
        | cons x l ih => rw [List.map_cons, List.sum_cons, ih, List.map_cons, List.sum_cons, List.length_cons]; omega
      have := this q
      omega
    · intro h
      have h : l.2.length ≤ 20 := h.1
      show 4 + 2 * l.2.length ≤ 700
      omega
  have HG := r_gives (N := N) (s := mI s' 51 (Int32.ofNat n)) (n := n) (m := m) hN (f := f) (a := a) (x := x) k4 (by omega) (g7.trans H3) (g6.trans H4) (by omega) rfl (by omega)
  rw [k3, HG]
  have V1 : vfr n f s (mI (mI s' 51 (Int32.ofNat n)) 62 (Int32.ofNat (m + ctV (vw x)))) := vfr.set (by unfold vfI; omega) (vfr.set (by unfold vfI; omega) g5)
  refine ⟨_, rfl, f, Nat.le_refl _, ?_, vfr.pus ?_, by omega, rfl, Or.inr ⟨if_pos rfl, ?_, a, if_pos rfl, ?_⟩, ?_, ?_⟩
  · show (if m + ctV (vw x) ≤ 3000 then _ else _ : mS).1 48 = _
    split
    · exact g2
    · exact g2
  · split
    · exact V1
    · exact V1.tr trb_v (Nat.le_refl _)
  · have z := (LayN_iff.mp k4).2
    revert z
    cases vw x with
    | inl z => intro z; exact z.elim
    | inr w => intro _; rfl
  · show LayN ((if m + ctV (vw x) ≤ 3000 then _ else _ : mS).2.2.1 47) _ _ _
    split
    · exact k4
    · exact k4
  · show (if m + ctV (vw x) ≤ 3000 then _ else _ : mS).1 62 = _
    split
    · rfl
    · rfl
  · by_cases z : m + ctV (vw x) ≤ 3000
    · rw [if_pos z, if_pos z]
      exact ⟨g7, g8⟩
    · rw [if_neg z, if_neg z]
      exact ⟨rfl, g5.i70⟩
end GIV
