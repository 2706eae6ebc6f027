/-! ===== PURE: run (55): group: what it asks ===== -/
def g1 (z : Int32) : Nat := if z < 0 then 0 else pz z + 1
def grW (r : List Int32) : Nat := mxL (r.map g1)
/-- the places of n, up to i -/
def plcT (r : List Int32) (n i : Nat) : List Int32 := (List.range i).flatMap fun j => if r.getD j 0 = Int32.ofNat n then [Int32.ofNat j] else []
abbrev plc (r : List Int32) (n : Nat) : List Int32 := plcT r n r.length
def ansGp (r : List Int32) : Ans := if 20 < grW r then .inl 2 else if (r.any fun z => decide (z < 0)) = true then .inl 1 else ansM 2 (((List.range (grW r)).map (plc r)).map nR)
section GRP
variable {r : List Int32} {n i k : Nat} {z : Int32}
theorem plcT_s : plcT r n (i + 1) = plcT r n i ++ (if r.getD i 0 = Int32.ofNat n then [Int32.ofNat i] else []) := by
  unfold plcT
  rw [List.range_succ, List.flatMap_append, List.flatMap_cons, List.flatMap_nil, List.append_nil]
theorem plcT_len : (plcT r n i).length ≤ i := by
  induction i with
  | zero => exact Nat.le_refl _
  | succ i ih =>
    rw [plcT_s, List.length_append]
    have : (if r.getD i 0 = Int32.ofNat n then [Int32.ofNat i] else ([] : List Int32)).length ≤ 1 := by
      split
      · exact Nat.le_refl _
      · exact Nat.zero_le _
    omega
theorem plc_sum (hk : k ≤ 1000) : ∀ i, (((List.range k).map fun n => plcT r n i).map List.length).sum ≤ i := fun i => by
  have one : ∀ z : Int32, ∀ k, k ≤ 1000 → (((List.range k).map fun n => (if z = Int32.ofNat n then 1 else 0 : Nat)).sum ≤ 1 ∧ ((∀ n, n < k → ¬ z = Int32.ofNat n) → ((List.range k).map fun n => (if z = Int32.ofNat n then 1 else 0 : Nat)).sum = 0)) := fun z k => by
    induction k with
    | zero => intro _; exact ⟨Nat.zero_le _, fun _ => rfl⟩
    | succ k ih =>
      intro hk
      have ih := ih (by omega)
      rw [range_map_s, List.sum_append]
      by_cases c : z = Int32.ofNat k
      · have h0 := ih.2 (fun n hn e => by
          rw [c] at e
          have := ofNat_inj (by omega) (by omega) e
          omega)
        refine ⟨?_, fun h => absurd c (h k (by omega))⟩
        rw [h0, if_pos c]
        exact Nat.le_refl _
      · rw [if_neg c]
        refine ⟨?_, fun h => ?_⟩
        · show _ + (0 + 0) ≤ 1
          exact ih.1
        · show _ + (0 + 0) = 0
          rw [ih.2 (fun n hn => h n (by omega))]
          rfl
  induction i with
  | zero =>
    have : ∀ k, (((List.range k).map fun n => plcT r n 0).map List.length).sum = 0 := fun k => by
      induction k with
      | zero => rfl
      | succ k ih =>
        rw [range_map_s, List.map_append, List.sum_append, ih]
        rfl
    rw [this]
    exact Nat.le_refl _
  | succ i ih =>
    have e : ∀ k, (((List.range k).map fun n => plcT r n (i + 1)).map List.length).sum = (((List.range k).map fun n => plcT r n i).map List.length).sum + ((List.range k).map fun n => (if r.getD i 0 = Int32.ofNat n then 1 else 0 : Nat)).sum := fun k => by
      induction k with
      | zero => rfl
      | succ k ih =>
        rw [range_map_s, List.map_append, List.sum_append, ih, range_map_s, List.map_append, List.sum_append, range_map_s, List.sum_append]
        have el : (plcT r k (i + 1)).length = (plcT r k i).length + if r.getD i 0 = Int32.ofNat k then 1 else 0 := by
          rw [plcT_s, List.length_append]
          congr 1
          split <;> rfl
        show _ + ((plcT r k (i + 1)).length + 0) = _ + ((plcT r k i).length + 0) + (_ + ((if r.getD i 0 = Int32.ofNat k then 1 else 0) + 0))
        rw [el]
        omega
    rw [e]
    have := (one (r.getD i 0) k hk).1
    omega
theorem grW_s (hi : i < r.length) : grW (r.take (i + 1)) = Nat.max (grW (r.take i)) (g1 r[i]) := by
  unfold grW
  rw [take_map_s hi, mxa]
theorem g1_n (h : z < 0) : g1 z = 0 := if_pos h
theorem g1_o {p : Nat} (hp : p < 2147483648) : g1 (Int32.ofNat p) = p + 1 := by
  unfold g1
  rw [if_neg (i32n hp), pz_o hp]
theorem grW_le : grW r ≤ 2147483648 := mxL_le.mpr (fun y hy => by
  obtain ⟨z, hz, rfl⟩ := List.mem_map.mp hy
  by_cases c : z < 0
  · rw [g1_n c]
    omega
  · obtain ⟨p, hp, rfl⟩ := i32nn c
    rw [g1_o hp]
    omega)
/-- the class's greatest, from -1 on -/
def gI (k : Nat) : Int32 := if k = 0 then -Int32.ofNat 1 else Int32.ofNat (k - 1)
theorem gI_s (hk : k ≤ 2147483648) : (if gI k < z then z else gI k) = gI (Nat.max k (g1 z)) := by
  by_cases c : z < 0
  · have h : ¬ gI k < z := by
      unfold gI
      by_cases d : k = 0
      · rw [if_pos d]
        intro q
        rw [Int32.lt_iff_toInt_lt] at q
        have := i32m c
        have e : (-Int32.ofNat 1).toInt = -1 := by decide
        omega
      · rw [if_neg d]
        exact (i32neg c (k := k - 1) (by omega)).2.2.2
    rw [if_neg h, g1_n c]
    congr 1
    exact (Nat.max_eq_left (Nat.zero_le _)).symm
  · obtain ⟨p, hp, rfl⟩ := i32nn c
    rw [g1_o hp]
    by_cases d : k = 0
    · subst d
      have h : gI 0 < Int32.ofNat p := by
        show -Int32.ofNat 1 < Int32.ofNat p
        have := ev_n1 (a := p) hp
        rw [this]
        trivial
      rw [if_pos h, show Nat.max 0 (p + 1) = p + 1 from Nat.max_eq_right (Nat.zero_le _)]
      rfl
    · have e : gI k = Int32.ofNat (k - 1) := if_neg d
      rw [e]
      by_cases g : k - 1 < p
      · rw [if_pos ((i32lt (by omega) hp).mpr g), show Nat.max k (p + 1) = p + 1 from Nat.max_eq_right (by omega)]
        rfl
      · rw [if_neg (fun q => g ((i32lt (by omega) hp).mp q)), show Nat.max k (p + 1) = k from Nat.max_eq_left (by omega), e]
theorem gI_20 (hk : k ≤ 2147483648) : (gI k < Int32.ofNat 20) ↔ k ≤ 20 := by
  unfold gI
  by_cases d : k = 0
  · rw [if_pos d]
    exact ⟨fun _ => by omega, fun _ => by decide⟩
  · rw [if_neg d, i32lt (by omega) (by omega)]
    omega
theorem gI_lt {j : Nat} (hk : k ≤ 20) (hj : j ≤ 20) : (gI k < Int32.ofNat j) ↔ k ≤ j := by
  unfold gI
  by_cases d : k = 0
  · rw [if_pos d]
    refine ⟨fun _ => by omega, fun _ => ?_⟩
    have := ev_n1 (a := j) (by omega)
    rw [this]
    trivial
  · rw [if_neg d, i32lt (by omega) (by omega)]
    omega
theorem min21 {W p : Nat} (hp : ¬ 19 < p) : Nat.max (Nat.min W 21) (p + 1) = Nat.min (Nat.max W (p + 1)) 21 := by
  show max (min W 21) (p + 1) = min (max W (p + 1)) 21
  omega
end GRP
