/-! ===== numbers ===== -/
theorem i32t {m : Nat} (h : m < 2147483648) : (Int32.ofNat m).toInt = (m : Int) := Int32.toInt_ofNat_of_lt (by omega)
theorem i32c {m : Nat} (h : m < 2147483648) : (Int32.ofNat m).toNatClampNeg = m := by
  show (Int32.ofNat m).toInt.toNat = m
  rw [i32t h]
  rfl
theorem i32lt {a b : Nat} (ha : a < 2147483648) (hb : b < 2147483648) : (Int32.ofNat a < Int32.ofNat b) ↔ a < b := by
  rw [Int32.lt_iff_toInt_lt, i32t ha, i32t hb]
  omega
theorem i32le {a b : Nat} (ha : a < 2147483648) (hb : b < 2147483648) : (Int32.ofNat a ≤ Int32.ofNat b) ↔ a ≤ b := by
  rw [Int32.le_iff_toInt_le, i32t ha, i32t hb]
  omega
theorem i32eq {a b : Nat} (ha : a < 2147483648) (hb : b < 2147483648) : (Int32.ofNat a = Int32.ofNat b) ↔ a = b := by
  constructor
  · intro h
    have := congrArg Int32.toInt h
    rw [i32t ha, i32t hb] at this
    omega
  · intro h
    rw [h]
theorem i32n {a : Nat} (ha : a < 2147483648) : ¬ Int32.ofNat a < 0 := by
  intro h
  have := Int32.lt_iff_toInt_lt.mp h
  rw [i32t ha] at this
  have h0 : (0 : Int32).toInt = 0 := rfl
  omega
theorem i32_max (a : Int32) : a.toInt < 2147483648 := Int32.toInt_lt a
/-- an int that is not below 0 is a number -/
theorem i32of {a : Int32} (h : ¬ a < 0) : ∃ m : Nat, m < 2147483648 ∧ a = Int32.ofNat m := by
  have h0 : 0 ≤ a.toInt := Int.not_lt.mp (fun q => h (Int32.lt_iff_toInt_lt.mpr q))
  have h1 := i32_max a
  refine ⟨a.toInt.toNat, by omega, ?_⟩
  apply Int32.toInt_inj.mp
  rw [i32t (by omega)]
  omega
theorem i32add {a b : Nat} : Int32.ofNat a + Int32.ofNat b = Int32.ofNat (a + b) := (Int32.ofNat_add a b).symm
theorem i32mul {a b : Nat} : Int32.ofNat a * Int32.ofNat b = Int32.ofNat (a * b) := (Int32.ofNat_mul a b).symm
/-! ===== PURE: calls that read ===== -/
section PU
variable {N : Nat} {X : Nat → Option zz_C} {t : cS} {s : mS} {a b : Int32}
/-- the latest load's fault -/
def iF (t : cS) (s : mS) : Prop := kI t 0 5 = s.1 45 ∧ kI t 0 6 = s.1 46
theorem p_fault (h : iF t s) : ∃ v : Int32, cf_4 N X a t = some (t, .inl (some (.int v))) ∧ mf_65 N a s = some (s, some (.int v)) := by
  obtain ⟨h1, h2⟩ := h
  unfold cf_4 cf_4_0 mf_65 mf_65_0
  by_cases e0 : a = 0
  · rw [if_neg (fun q => q e0), if_neg (fun q => q e0)]
    exact ⟨s.1 45, by unfold cf_4_4; rw [h1], rfl⟩
  · rw [if_pos e0, if_pos e0]
    unfold cf_4_9 mf_65_11
    by_cases e1 : a = 1
    · rw [if_neg (fun q => q e1), if_neg (fun q => q e1)]
      exact ⟨s.1 46, by unfold cf_4_14 cf_4_22; rw [h2], rfl⟩
    · rw [if_pos e1, if_pos e1]
      exact ⟨-1, rfl, rfl⟩
/-- what was said or shown -/
def iO (t : cS) (s : mS) : Prop := ∃ n : Nat, n < 2147483648 ∧ s.1 87 = Int32.ofNat n ∧ kI t 45 1 = Int32.ofNat n ∧ (∀ i, i < n → i < 600 → (kA t 46).2 i = s.2.2.1 86 i) ∧ (n ≤ (kA t 46).1 ∨ 600 ≤ (kA t 46).1) ∧ (kA t 46).1 ≤ 600
theorem p_outs (h : iO t s) : ∃ v : Int32, cf_9 N X t = some (t, .inl (some (.int v))) ∧ mf_71 N s = some (s, some (.int v)) := by
  obtain ⟨n, h0, h1, h2, -⟩ := h
  refine ⟨s.1 87, ?_, rfl⟩
  rw [h1, ← h2]
  rfl
theorem p_out (h : iO t s) : ∃ v : Int32, cf_8 N X a t = some (t, .inl (some (.int v))) ∧ mf_70 N a s = some (s, some (.int v)) := by
  obtain ⟨n, h0, h1, h2, h3, h4, h5⟩ := h
  have hc : ∀ v : Int32, cf_49 N X a t = some (t, .inl (some (.int v))) → cf_8 N X a t = some (t, .inl (some (.int v))) := fun v q => by
    unfold cf_8 cf_8_0
    rw [q]
    rfl
  suffices H : ∃ v : Int32, cf_49 N X a t = some (t, .inl (some (.int v))) ∧ mf_70 N a s = some (s, some (.int v)) by
    obtain ⟨v, q1, q2⟩ := H
    exact ⟨v, hc v q1, q2⟩
  unfold cf_49 cf_49_0 mf_70 mf_70_0
  by_cases e0 : a < 0
  · rw [if_pos e0, if_pos e0]
    exact ⟨-1, rfl, rfl⟩
  · rw [if_neg e0, if_neg e0]
    obtain ⟨m, hm, rfl⟩ := i32of e0
    unfold cf_49_4 mf_70_4
    rw [h1, h2]
    by_cases e1 : n ≤ m
    · rw [if_pos ((i32le h0 hm).mpr e1), if_pos ((i32le h0 hm).mpr e1)]
      exact ⟨-1, rfl, rfl⟩
    · rw [if_neg (fun q => e1 ((i32le h0 hm).mp q)), if_neg (fun q => e1 ((i32le h0 hm).mp q))]
      unfold cf_49_12 mf_70_12
      by_cases e2 : m < 600
      · have e3 : ¬ (kA t 46).1 ≤ m := by omega
        rw [if_neg (fun q => e3 ((i32le (by omega) hm).mp q)), if_pos (show Int32.ofNat m < 600 from (i32lt hm (b := 600) (by decide)).mpr e2)]
        unfold cf_49_21 mf_70_23
        rw [i32c hm, if_pos (fun q => q.elim e0 e3), if_pos (fun q => q.elim e0 (by omega))]
        exact ⟨s.2.2.1 86 m, by rw [h3 m (by omega) e2]; rfl, rfl⟩
      · have e3 : (kA t 46).1 ≤ m := by omega
        rw [if_pos ((i32le (by omega) hm).mpr e3), if_neg (show ¬ Int32.ofNat m < 600 from fun q => e2 ((i32lt hm (b := 600) (by decide)).mp q))]
        exact ⟨-1, rfl, rfl⟩
/-- the latest run's tally -/
def iT (t : cS) (s : mS) : Prop := kI t 48 0 = s.1 68 ∧ (¬ s.1 68 = 0 → kI t 48 6 = s.1 66 ∧ kI t 48 7 = s.1 67 ∧ kI t 48 8 = (if s.1 66 = 9 then s.1 65 else 0) ∧ kI t 48 2 = s.1 60 ∧ kI t 48 3 = s.1 62 ∧ kI t 48 4 = s.1 63 ∧ kI t 48 5 = s.1 64)
theorem p_trouble (h : iT t s) : ∃ v : Int32, cf_7 N X a t = some (t, .inl (some (.int v))) ∧ mf_69 N a s = some (s, some (.int v)) := by
  obtain ⟨h0, h1⟩ := h
  have hc : ∀ v : Int32, cf_52 N X a t = some (t, .inl (some (.int v))) → cf_7 N X a t = some (t, .inl (some (.int v))) := fun v q => by
    unfold cf_7 cf_7_0
    rw [q]
    rfl
  suffices H : ∃ v : Int32, cf_52 N X a t = some (t, .inl (some (.int v))) ∧ mf_69 N a s = some (s, some (.int v)) by
    obtain ⟨v, q1, q2⟩ := H
    exact ⟨v, hc v q1, q2⟩
  unfold cf_52 cf_52_0 mf_69 mf_69_0
  rw [h0]
  by_cases e0 : s.1 68 = 0
  · rw [if_neg (fun q => q e0), if_neg (fun q => q e0)]
    exact ⟨-1, rfl, rfl⟩
  · rw [if_pos e0, if_pos e0]
    obtain ⟨g1, g2, g3, g4, g5, g6, g7⟩ := h1 e0
    unfold cf_52_9 mf_69_9
    by_cases e1 : Int32.toInt a < 0 ∨ 6 < Int32.toInt a
    · rw [if_pos e1, if_pos e1]
      exact ⟨-1, rfl, rfl⟩
    · rw [if_neg e1, if_neg e1]
      have hv : a.toInt = 0 ∨ a.toInt = 1 ∨ a.toInt = 2 ∨ a.toInt = 3 ∨ a.toInt = 4 ∨ a.toInt = 5 ∨ a.toInt = 6 := by omega
      rcases hv with hv | hv | hv | hv | hv | hv | hv
      · have e : a = 0 := Int32.toInt_inj.mp (hv.trans rfl)
        subst e
        exact ⟨s.1 66, by rw [if_pos rfl]; unfold cf_52_52; rw [g1], rfl⟩
      · have e : a = 1 := Int32.toInt_inj.mp (hv.trans rfl)
        subst e
        exact ⟨s.1 67, by rw [if_neg (by decide), if_pos rfl]; unfold cf_52_57; rw [g2], rfl⟩
      · have e : a = 2 := Int32.toInt_inj.mp (hv.trans rfl)
        subst e
        refine ⟨if s.1 66 = 9 then s.1 65 else 0, by rw [if_neg (by decide), if_neg (by decide), if_pos rfl]; unfold cf_52_62; rw [g3], ?_⟩
        rw [if_neg (by decide), if_neg (by decide), if_pos rfl]
        unfold mf_69_62
        by_cases e9 : s.1 66 = 9
        · rw [if_neg (fun q => q e9), if_pos e9]
          rfl
        · rw [if_pos e9, if_neg e9]
          rfl
      · have e : a = 3 := Int32.toInt_inj.mp (hv.trans rfl)
        subst e
        exact ⟨s.1 60, by rw [if_neg (by decide), if_neg (by decide), if_neg (by decide), if_pos rfl]; unfold cf_52_67; rw [g4], rfl⟩
      · have e : a = 4 := Int32.toInt_inj.mp (hv.trans rfl)
        subst e
        exact ⟨s.1 62, by rw [if_neg (by decide), if_neg (by decide), if_neg (by decide), if_neg (by decide), if_pos rfl]; unfold cf_52_72; rw [g5], rfl⟩
      · have e : a = 5 := Int32.toInt_inj.mp (hv.trans rfl)
        subst e
        exact ⟨s.1 63, by rw [if_neg (by decide), if_neg (by decide), if_neg (by decide), if_neg (by decide), if_neg (by decide), if_pos rfl]; unfold cf_52_77; rw [g6], rfl⟩
      · have e : a = 6 := Int32.toInt_inj.mp (hv.trans rfl)
        subst e
        exact ⟨s.1 64, by rw [if_neg (by decide), if_neg (by decide), if_neg (by decide), if_neg (by decide), if_neg (by decide), if_neg (by decide), if_pos rfl]; unfold cf_52_82; rw [g7], rfl⟩
/-- the program's functions, as function() tells them (p: the class's program; e: the reference's half) -/
def iG (t : cS) (s : mS) (p e m : Nat) : Prop := kP t 0 3 = some p ∧ (p = 12 ∨ p = 21) ∧ kI t p 4 = Int32.ofNat m ∧ s.1 14 = Int32.ofNat m ∧ m ≤ 12 ∧ s.1 12 = Int32.ofNat e ∧ e ≤ 1 ∧ (kA t (p + 6)).1 = 12 ∧ (kA t (p + 7)).1 = 12 ∧ (kA t (p + 8)).1 = 12 ∧ ∀ f, f < m → (kA t (p + 6)).2 f = s.2.2.1 18 (12 * e + f) ∧ (kA t (p + 7)).2 f = s.2.2.1 19 (12 * e + f) ∧ (kA t (p + 8)).2 f = s.2.2.1 17 (12 * e + f)
theorem p_function {p e m : Nat} (h : iG t s p e m) : ∃ v : Int32, cf_5 N X a b t = some (t, .inl (some (.int v))) ∧ mf_67 N a b s = some (s, some (.int v)) := by
  obtain ⟨h1, h2, h3, h4, h5, h6, h7, h8, h9, h10, h11⟩ := h
  have hc : ∀ v : Int32, cf_33 N X p a b t = some (t, .inl (some (.int v))) → cf_5 N X a b t = some (t, .inl (some (.int v))) := fun v q => by
    unfold cf_5 cf_5_0
    rw [h1]
    show (if p = 12 ∨ p = 21 then _ else none) = _
    rw [if_pos h2, q]
    rfl
  suffices H : ∃ v : Int32, cf_33 N X p a b t = some (t, .inl (some (.int v))) ∧ mf_67 N a b s = some (s, some (.int v)) by
    obtain ⟨v, q1, q2⟩ := H
    exact ⟨v, hc v q1, q2⟩
  unfold cf_33 cf_33_0 mf_67 mf_67_0
  by_cases e0 : a < 0
  · rw [if_pos e0, if_pos e0]
    exact ⟨-1, rfl, rfl⟩
  · rw [if_neg e0, if_neg e0]
    obtain ⟨f, hf, rfl⟩ := i32of e0
    unfold cf_33_4 mf_67_4
    rw [if_pos h2, h3, h4]
    by_cases e1 : f < m
    · rw [if_pos ((i32lt hf (by omega)).mpr e1), if_pos ((i32lt hf (by omega)).mpr e1)]
      obtain ⟨g1, g2, g3⟩ := h11 f e1
      have e3 : (12 : Int32) * s.1 12 + Int32.ofNat f = Int32.ofNat (12 * e + f) := by
        rw [h6]
        exact (congrArg (· + Int32.ofNat f) (i32mul (a := 12) (b := e))).trans i32add
      have e4 : (Int32.ofNat (12 * e + f)).toNatClampNeg = 12 * e + f := i32c (by omega)
      have e5 : ¬ (Int32.ofNat (12 * e + f) < 0 ∨ 24 ≤ (Int32.ofNat (12 * e + f)).toNatClampNeg) := fun q => q.elim (i32n (by omega)) (by rw [e4]; omega)
      have e6 : ¬ (Int32.ofNat f < 0 ∨ 12 ≤ (Int32.ofNat f).toNatClampNeg) := fun q => q.elim (i32n hf) (by rw [i32c hf]; omega)
      unfold cf_33_14 mf_67_14
      rw [e3]
      by_cases b0 : b = 0
      · subst b0
        rw [if_neg (by decide), if_pos rfl, if_neg (fun q => q rfl)]
        unfold cf_33_40 mf_67_28
        rw [if_pos h2, h8, if_pos e6, if_pos e5, i32c hf, e4]
        exact ⟨_, rfl, by rw [g1]; rfl⟩
      · rw [if_pos b0]
        unfold mf_67_37
        by_cases b1 : b = 1
        · subst b1
          rw [if_neg (by decide), if_neg (by decide), if_pos rfl, if_neg (fun q => q rfl)]
          unfold cf_33_47 mf_67_42
          rw [if_pos h2, h9, if_pos e6, if_pos e5, i32c hf, e4]
          exact ⟨_, rfl, by rw [g2]; rfl⟩
        · rw [if_pos b1]
          unfold mf_67_51
          by_cases b2 : b = 2
          · subst b2
            rw [if_neg (by decide), if_neg (by decide), if_neg (by decide), if_pos rfl, if_neg (fun q => q rfl)]
            unfold cf_33_54 mf_67_56
            rw [if_pos h2, h10, if_pos e6, if_pos e5, i32c hf, e4]
            exact ⟨_, rfl, by rw [g3]; rfl⟩
          · rw [if_pos b2, if_pos (by
              refine Classical.byContradiction fun q => ?_
              have hv : b.toInt = 0 ∨ b.toInt = 1 ∨ b.toInt = 2 := by omega
              rcases hv with hv | hv | hv
              · exact b0 (Int32.toInt_inj.mp (hv.trans rfl))
              · exact b1 (Int32.toInt_inj.mp (hv.trans rfl))
              · exact b2 (Int32.toInt_inj.mp (hv.trans rfl)))]
            exact ⟨-1, rfl, rfl⟩
    · rw [if_neg (fun q => e1 ((i32lt hf (by omega)).mp q)), if_neg (fun q => e1 ((i32lt hf (by omega)).mp q))]
      exact ⟨-1, rfl, rfl⟩
end PU
