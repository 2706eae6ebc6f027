/-! ===== PURE: how the reference reads a THING ===== -/
/-- a THING of any depth, and what it is -/
abbrev Nod : Type := (n : Nat) × Th n
abbrev Vw : Type := Int32 ⊕ (List Int32 ⊕ (List (List Int32) ⊕ ((n : Nat) × List (Th n))))
abbrev vR (r : List Int32) : Vw := .inr (.inl r)
abbrev vT (q : List (List Int32)) : Vw := .inr (.inr (.inl q))
abbrev vP (n : Nat) (l : List (Th n)) : Vw := .inr (.inr (.inr ⟨n, l⟩))
abbrev nR (r : List Int32) : Nod := ⟨0, .inr (.inl r)⟩
def vwP : Pl → Vw
  | .inl z => .inl z
  | .inr (.inl r) => vR r
  | .inr (.inr q) => vT q
def vw : Nod → Vw
  | ⟨0, p⟩ => vwP p
  | ⟨n + 1, x⟩ => match (show Pl ⊕ List (Th n) from x) with
    | .inl p => vwP p
    | .inr l => vP n l
def kdV : Vw → Int32
  | .inl _ => 0
  | .inr (.inl _) => 1
  | .inr (.inr (.inl _)) => 2
  | .inr (.inr (.inr _)) => 3
def szV : Vw → Nat
  | .inl _ => 0
  | .inr (.inl r) => r.length
  | .inr (.inr (.inl q)) => q.length
  | .inr (.inr (.inr l)) => l.2.length
def kdsV : Vw → List Nod
  | .inl _ => []
  | .inr (.inl _) => []
  | .inr (.inr (.inl q)) => q.map nR
  | .inr (.inr (.inr l)) => l.2.map fun y => ⟨l.1, y⟩
def intV : Vw → Option Int32
  | .inl z => some z
  | _ => none
/-- a weight of what is no INT, by kind and size -/
def wV (w : Nat → Nat → Nat) : Vw → Nat
  | .inl _ => 0
  | .inr (.inl r) => w 1 r.length
  | .inr (.inr (.inl q)) => w 2 q.length
  | .inr (.inr (.inr l)) => w 3 l.2.length
def wn (k z : Nat) : Nat := if k = 3 then 2 + 2 * z else 2 + z
def w1 (_ _ : Nat) : Nat := 1
def TP (w : Nat → Nat → Nat) : Pl → Nat
  | .inl _ => 0
  | .inr (.inl r) => w 1 r.length
  | .inr (.inr q) => w 2 q.length + (q.map fun r => w 1 r.length).sum
def TT (w : Nat → Nat → Nat) : (n : Nat) → Th n → Nat
  | 0, p => TP w p
  | n + 1, x => match (show Pl ⊕ List (Th n) from x) with
    | .inl p => TP w p
    | .inr l => w 3 l.length + (l.map (TT w n)).sum
def TN (w : Nat → Nat → Nat) (x : Nod) : Nat := TT w x.1 x.2
theorem vw_int : ∀ x : Nod, intT x.1 x.2 = intV (vw x)
  | ⟨0, p⟩ => by
    obtain z | r | q := p <;> rfl
  | ⟨n + 1, x⟩ => by
    obtain p | l := x
    · obtain z | r | q := p <;> rfl
    · rfl
theorem vw_kd : ∀ x : Nod, kdT x.1 x.2 = kdV (vw x)
  | ⟨0, p⟩ => by
    obtain z | r | q := p <;> rfl
  | ⟨n + 1, x⟩ => by
    obtain p | l := x
    · obtain z | r | q := p <;> rfl
    · rfl
theorem TN_eq (w : Nat → Nat → Nat) : ∀ x : Nod, TN w x = wV w (vw x) + ((kdsV (vw x)).map (TN w)).sum := by
  have hT : ∀ q : List (List Int32), (q.map fun r => w 1 r.length).sum = ((q.map nR).map (TN w)).sum := fun q => by
    rw [List.map_map]
    rfl
  have hP : ∀ p : Pl, TP w p = wV w (vwP p) + ((kdsV (vwP p)).map (TN w)).sum := fun p => by
    obtain z | r | q := p
    · rfl
    · rfl
    · show w 2 q.length + _ = w 2 q.length + _
      rw [hT]
      rfl
  intro x
  match x with
  | ⟨0, p⟩ => exact hP p
  | ⟨n + 1, x⟩ =>
    obtain p | l := x
    · exact hP p
    · show w 3 l.length + (l.map (TT w n)).sum = w 3 l.length + ((l.map fun y => (⟨n, y⟩ : Nod)).map (TN w)).sum
      rw [List.map_map]
      rfl
theorem sum_add {α : Type} {f g : α → Nat} : ∀ {l : List α}, (l.map fun x => f x + g x).sum = (l.map f).sum + (l.map g).sum
  | [] => rfl
  | a :: l => by
    rw [List.map_cons, List.map_cons, List.map_cons, List.sum_cons, List.sum_cons, List.sum_cons, sum_add]
    omega
theorem sum_c {α : Type} (c : Nat) : ∀ {l : List α}, (l.map fun _ => c).sum = c * l.length
  | [] => rfl
  | a :: l => by
    rw [List.map_cons, List.sum_cons, sum_c c, List.length_cons, Nat.mul_succ]
    omega
/-- all numbers of a THING -/
theorem TT_wn : ∀ (n : Nat) (x : Th n), TT wn n x + 2 ≤ 4 * bulk n x := by
  have hP : ∀ p : Pl, TP wn p + 2 ≤ 4 * bulkP p := fun p => by
    obtain z | r | q := p
    · show 0 + 2 ≤ 4 * 1
      omega
    · show 2 + r.length + 2 ≤ 4 * (1 + r.length)
      omega
    · show 2 + q.length + (q.map fun r => 2 + r.length).sum + 2 ≤ 4 * (1 + (q.map fun r => 1 + r.length).sum)
      rw [sum_add, sum_add, sum_c, sum_c]
      omega
  intro n
  induction n with
  | zero => exact hP
  | succ n ih =>
    intro x
    obtain p | l := x
    · exact hP p
    · show 2 + 2 * l.length + (l.map (TT wn n)).sum + 2 ≤ 4 * (1 + (l.map (bulk n)).sum)
      have h1 : (l.map fun y => TT wn n y + 2).sum ≤ (l.map fun y => 4 * bulk n y).sum := sum_le (fun y _ => ih y)
      rw [sum_add, sum_c, sum_mul] at h1
      omega
theorem TT_w1 : ∀ (n : Nat) (x : Th n), TT w1 n x ≤ bulk n x := by
  have hP : ∀ p : Pl, TP w1 p ≤ bulkP p := fun p => by
    obtain z | r | q := p
    · show 0 ≤ 1
      omega
    · show 1 ≤ 1 + r.length
      omega
    · show 1 + (q.map fun _ => 1).sum ≤ 1 + (q.map fun r => 1 + r.length).sum
      rw [sum_add]
      omega
  intro n
  induction n with
  | zero => exact hP
  | succ n ih =>
    intro x
    obtain p | l := x
    · exact hP p
    · show 1 + (l.map (TT w1 n)).sum ≤ 1 + (l.map (bulk n)).sum
      have h1 : (l.map (TT w1 n)).sum ≤ (l.map (bulk n)).sum := sum_le (fun y _ => ih y)
      omega
/-- a THING's own numbers at b, with P of where its parts are -/
def Wy (h : Nat → Int32) (b : Nat) (P : Nat → Nod → Prop) : Vw → Prop
  | .inl _ => False
  | .inr (.inl r) => h b = 1 ∧ h (b + 1) = Int32.ofNat r.length ∧ ∀ i (hi : i < r.length), h (b + 2 + i) = r[i]
  | .inr (.inr (.inl q)) => h b = 2 ∧ h (b + 1) = Int32.ofNat q.length ∧ ∀ i (hi : i < q.length), ∃ c : Nat, Int32.ofNat b + h (b + 2 + i) = Int32.ofNat c ∧ P c (nR q[i])
  | .inr (.inr (.inr ⟨n, l⟩)) => h b = 3 ∧ h (b + 1) = Int32.ofNat l.length ∧ ∀ i (hi : i < l.length), (∀ z, intT n l[i] = some z → h (b + 2 + 2 * i) = 0 ∧ h (b + 3 + 2 * i) = z) ∧ (intT n l[i] = none → h (b + 2 + 2 * i) = 1 ∧ ∃ c : Nat, Int32.ofNat b + h (b + 3 + 2 * i) = Int32.ofNat c ∧ P c ⟨n, l[i]⟩)
def LayN (h : Nat → Int32) (R : Nat → Prop) (a : Nat) (x : Nod) : Prop := Lay x.1 h R a x.2
theorem LayN_iff {h : Nat → Int32} {R : Nat → Prop} {a : Nat} : ∀ {x : Nod}, LayN h R a x ↔ (∀ y, a ≤ y → y < a + wV wn (vw x) → R y) ∧ Wy h a (LayN h R) (vw x)
  | ⟨0, p⟩ => by
    obtain z | r | q := p
    · exact ⟨fun q => q.elim, fun q => q.2.elim⟩
    · have e : wV wn (vR r) = 2 + r.length := rfl
      show LayR h R a r ↔ (∀ y, a ≤ y → y < a + wV wn (vR r) → R y) ∧ _
      rw [e, ← Nat.add_assoc]
      exact Iff.rfl
    · have e : wV wn (vT q) = 2 + q.length := rfl
      show LayP h R a (.inr (.inr q)) ↔ (∀ y, a ≤ y → y < a + wV wn (vT q) → R y) ∧ _
      rw [e, ← Nat.add_assoc]
      exact Iff.rfl
  | ⟨n + 1, x⟩ => by
    obtain p | l := x
    · obtain z | r | q := p
      · exact ⟨fun q => q.elim, fun q => q.2.elim⟩
      · have e : wV wn (vR r) = 2 + r.length := rfl
        show LayR h R a r ↔ (∀ y, a ≤ y → y < a + wV wn (vR r) → R y) ∧ _
        rw [e, ← Nat.add_assoc]
        exact Iff.rfl
      · have e : wV wn (vT q) = 2 + q.length := rfl
        show LayP h R a (.inr (.inr q)) ↔ (∀ y, a ≤ y → y < a + wV wn (vT q) → R y) ∧ _
        rw [e, ← Nat.add_assoc]
        exact Iff.rfl
    · have e : wV wn (vP n l) = 2 + 2 * l.length := rfl
      show Lay (n + 1) h R a (.inr l) ↔ (∀ y, a ≤ y → y < a + wV wn (vP n l) → R y) ∧ _
      rw [e, ← Nat.add_assoc]
      exact Iff.rfl
section RD
variable {N : Nat} {s : mS} {a b : Nat} {P : Nat → Nod → Prop} {v : Vw}
theorem Wy.kd {h : Nat → Int32} (H : Wy h a P v) : h a = kdV v ∧ h (a + 1) = Int32.ofNat (szV v) ∧ 2 ≤ wV wn v := by
  obtain z | r | q | ⟨n, l⟩ := v
  · exact H.elim
  · exact ⟨H.1, H.2.1, by show 2 ≤ 2 + r.length; omega⟩
  · exact ⟨H.1, H.2.1, by show 2 ≤ 2 + q.length; omega⟩
  · exact ⟨H.1, H.2.1, by show 2 ≤ 2 + 2 * l.length; omega⟩
theorem r_size (H : Wy (s.2.2.1 47) a P v) (ha : a + wV wn v ≤ 166300) : mf_77 N (Int32.ofNat a) s = some (s, some (.int (Int32.ofNat (szV v)))) := by
  obtain ⟨h1, h2, h3⟩ := H.kd
  have e1 : Int32.ofNat a + 1 = Int32.ofNat (a + 1) := i32al
  unfold mf_77 mf_77_0
  rw [if_pos (gd e1 (by omega) (by decide)), cl e1 (by omega), h2]
theorem r_nums (H : Wy (s.2.2.1 47) a P v) (ha : a + wV wn v ≤ 166300) : mf_300 N (Int32.ofNat a) s = some (s, some (.int (Int32.ofNat (wV wn v)))) := by
  have hs := r_size (N := N) H ha
  obtain ⟨h1, h2, h3⟩ := H.kd
  unfold mf_300 mf_300_0
  rw [if_pos (gd rfl (by omega) (by decide)), i32c (m := a) (by omega), h1]
  unfold mf_300_21 mf_300_11
  rw [hs]
  obtain z | r | q | ⟨n, l⟩ := v
  · exact H.elim
  · rw [if_pos (show ¬ kdV (vR r) = 3 from (show ¬ (1 : Int32) = 3 by decide))]
    show some (s, some (Value.int (2 + Int32.ofNat r.length))) = some (s, some (Value.int (Int32.ofNat (2 + r.length))))
    rw [show (2 : Int32) + Int32.ofNat r.length = Int32.ofNat (2 + r.length) from i32add (a := 2)]
  · rw [if_pos (show ¬ kdV (vT q) = 3 from (show ¬ (2 : Int32) = 3 by decide))]
    show some (s, some (Value.int (2 + Int32.ofNat q.length))) = some (s, some (Value.int (Int32.ofNat (2 + q.length))))
    rw [show (2 : Int32) + Int32.ofNat q.length = Int32.ofNat (2 + q.length) from i32add (a := 2)]
  · rw [if_neg (fun q => q rfl)]
    show some (s, some (Value.int (2 + 2 * Int32.ofNat l.length))) = some (s, some (Value.int (Int32.ofNat (2 + 2 * l.length))))
    rw [show (2 : Int32) * Int32.ofNat l.length = Int32.ofNat (2 * l.length) from i32ml, show (2 : Int32) + Int32.ofNat (2 * l.length) = Int32.ofNat (2 + 2 * l.length) from i32add (a := 2)]
theorem r_partT {q : List (List Int32)} (H : Wy (s.2.2.1 47) a P (vT q)) (ha : a + wV wn (vT q) ≤ 166300) {i : Nat} (hi : i < q.length) : ∃ c : Nat, mf_294 N (Int32.ofNat a) (Int32.ofNat i) s = some (s, some (.int (Int32.ofNat c))) ∧ P c (nR q[i]) := by
  obtain ⟨h1, h2, h3⟩ := H
  obtain ⟨c, g1, g2⟩ := h3 i hi
  have ha : a + (2 + q.length) ≤ 166300 := ha
  refine ⟨c, ?_, g2⟩
  have e2 : Int32.ofNat a + 2 + Int32.ofNat i = Int32.ofNat (a + 2 + i) := by
    rw [show Int32.ofNat a + 2 = Int32.ofNat (a + 2) from i32al, i32add]
  unfold mf_294 mf_294_0
  rw [if_pos (gd rfl (by omega) (by decide)), i32c (m := a) (by omega), h1, if_neg (fun q => q rfl)]
  unfold mf_294_11
  rw [if_pos (gd e2 (by omega) (by decide)), cl e2 (by omega)]
  unfold mf_294_36
  rw [g1]
theorem r_partP {n : Nat} {l : List (Th n)} (H : Wy (s.2.2.1 47) a P (vP n l)) (ha : a + wV wn (vP n l) ≤ 166300) {i : Nat} (hi : i < l.length) (hz : intT n l[i] = none) : ∃ c : Nat, mf_294 N (Int32.ofNat a) (Int32.ofNat i) s = some (s, some (.int (Int32.ofNat c))) ∧ P c ⟨n, l[i]⟩ := by
  obtain ⟨h1, h2, h3⟩ := H
  obtain ⟨-, c, g1, g2⟩ := (h3 i hi).2 hz
  have ha : a + (2 + 2 * l.length) ≤ 166300 := ha
  refine ⟨c, ?_, g2⟩
  have e2 : Int32.ofNat a + 3 + 2 * Int32.ofNat i = Int32.ofNat (a + 3 + 2 * i) := by
    rw [show Int32.ofNat a + 3 = Int32.ofNat (a + 3) from i32al, show (2 : Int32) * Int32.ofNat i = Int32.ofNat (2 * i) from i32ml, i32add]
  unfold mf_294 mf_294_0
  rw [if_pos (gd rfl (by omega) (by decide)), i32c (m := a) (by omega), h1, if_pos (by decide)]
  unfold mf_294_24
  rw [if_pos (gd e2 (by omega) (by decide)), cl e2 (by omega)]
  unfold mf_294_36
  rw [g1]
theorem r_isInt {n : Nat} {l : List (Th n)} (H : Wy (s.2.2.1 47) a P (vP n l)) (ha : a + wV wn (vP n l) ≤ 166300) {i : Nat} (hi : i < l.length) : mf_293 N (Int32.ofNat a) (Int32.ofNat i) s = some (s, some (.int (if (intT n l[i]).isSome then 1 else 0))) := by
  obtain ⟨h1, h2, h3⟩ := H
  obtain ⟨g1, g2⟩ := h3 i hi
  have ha : a + (2 + 2 * l.length) ≤ 166300 := ha
  have e2 : Int32.ofNat a + 2 + 2 * Int32.ofNat i = Int32.ofNat (a + 2 + 2 * i) := by
    rw [show Int32.ofNat a + 2 = Int32.ofNat (a + 2) from i32al, show (2 : Int32) * Int32.ofNat i = Int32.ofNat (2 * i) from i32ml, i32add]
  unfold mf_293 mf_293_0
  rw [if_pos (gd e2 (by omega) (by decide)), cl e2 (by omega)]
  cases hz : intT n l[i] with
  | none =>
    rw [(g2 hz).1, if_pos (by decide)]
    rfl
  | some z =>
    rw [(g1 z hz).1, if_neg (fun q => q rfl)]
    rfl
end RD
