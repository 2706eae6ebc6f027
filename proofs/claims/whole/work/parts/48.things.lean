/-! ===== PURE: THINGS, as trees: an INT, a ROW, a TABLE (plain), or a PACK of such, at most n deep ===== -/
abbrev Pl : Type := Int32 ⊕ (List Int32 ⊕ List (List Int32))
def Th : Nat → Type
  | 0 => Pl
  | n + 1 => Pl ⊕ List (Th n)
def serRow (r : List Int32) : List Int32 := Int32.ofNat r.length :: r
def serP : Pl → List Int32
  | .inl x => [0, x]
  | .inr (.inl r) => 1 :: serRow r
  | .inr (.inr q) => 2 :: Int32.ofNat q.length :: q.flatMap serRow
/-- the numbers of a THING, as sum() goes over them -/
def ser : (n : Nat) → Th n → List Int32
  | 0, p => serP p
  | n + 1, x => match (show Pl ⊕ List (Th n) from x) with
    | .inl p => serP p
    | .inr l => 3 :: Int32.ofNat l.length :: l.flatMap (ser n)
def bulkP : Pl → Nat
  | .inl _ => 1
  | .inr (.inl r) => 1 + r.length
  | .inr (.inr q) => 1 + (q.map fun r => 1 + r.length).sum
def bulk : (n : Nat) → Th n → Nat
  | 0, p => bulkP p
  | n + 1, x => match (show Pl ⊕ List (Th n) from x) with
    | .inl p => bulkP p
    | .inr l => 1 + (l.map (bulk n)).sum
/-- sizes as the document has them -/
def wfP : Pl → Prop
  | .inl _ => True
  | .inr (.inl r) => r.length ≤ 64
  | .inr (.inr q) => q.length ≤ 20 ∧ (q.map List.length).sum ≤ 200 ∧ ∀ r ∈ q, r.length ≤ 64
def wfT : (n : Nat) → Th n → Prop
  | 0, p => wfP p
  | n + 1, x => match (show Pl ⊕ List (Th n) from x) with
    | .inl p => wfP p
    | .inr l => l.length ≤ 20 ∧ 1 + (l.map (bulk n)).sum ≤ 600 ∧ ∀ y ∈ l, wfT n y
/-- 0 INT, 1 ROW, 2 TABLE, 3 PACK -/
def kdP : Pl → Int32
  | .inl _ => 0
  | .inr (.inl _) => 1
  | .inr (.inr _) => 2
def kdT : (n : Nat) → Th n → Int32
  | 0, p => kdP p
  | n + 1, x => match (show Pl ⊕ List (Th n) from x) with
    | .inl p => kdP p
    | .inr _ => 3
theorem serP_kd (p : Pl) : ∃ l, serP p = kdP p :: l := by
  obtain x | r | q := p
  · exact ⟨_, rfl⟩
  · exact ⟨_, rfl⟩
  · exact ⟨_, rfl⟩
theorem ser_kd : ∀ (n : Nat) (x : Th n), ∃ l, ser n x = kdT n x :: l
  | 0, p => serP_kd p
  | n + 1, x => by
    obtain p | l := x
    · exact serP_kd p
    · exact ⟨_, rfl⟩
theorem flatMap_len {α β : Type} (f : α → List β) : ∀ l : List α, (l.flatMap f).length = (l.map fun x => (f x).length).sum
  | [] => rfl
  | a :: l => by rw [List.flatMap_cons, List.length_append, List.map_cons, List.sum_cons, flatMap_len f l]
theorem sum_le {α : Type} {f g : α → Nat} : ∀ {l : List α}, (∀ x ∈ l, f x ≤ g x) → (l.map f).sum ≤ (l.map g).sum
  | [], _ => Nat.le_refl _
  | a :: l, h => by
    rw [List.map_cons, List.map_cons, List.sum_cons, List.sum_cons]
    exact Nat.add_le_add (h a List.mem_cons_self) (sum_le (fun x hx => h x (List.mem_cons_of_mem _ hx)))
theorem sum_mul {α : Type} {f : α → Nat} (c : Nat) : ∀ {l : List α}, (l.map fun x => c * f x).sum = c * (l.map f).sum
  | [] => rfl
  | a :: l => by rw [List.map_cons, List.map_cons, List.sum_cons, List.sum_cons, sum_mul c, Nat.mul_add]
theorem serP_len (p : Pl) : (serP p).length ≤ 2 * bulkP p := by
  obtain x | r | q := p
  · exact Nat.le_refl _
  · show (r.length + 1) + 1 ≤ 2 * (1 + r.length)
    omega
  · show ((q.flatMap serRow).length + 1) + 1 ≤ 2 * (1 + (q.map fun r => 1 + r.length).sum)
    rw [flatMap_len]
    have : (q.map fun r => (serRow r).length).sum ≤ (q.map fun r => 1 + r.length).sum := sum_le (fun r _ => by show r.length + 1 ≤ _; omega)
    omega
theorem ser_len : ∀ (n : Nat) (x : Th n), (ser n x).length ≤ 2 * bulk n x
  | 0, p => serP_len p
  | n + 1, x => by
    obtain p | l := x
    · exact serP_len p
    · show ((l.flatMap (ser n)).length + 1) + 1 ≤ 2 * (1 + (l.map (bulk n)).sum)
      rw [flatMap_len]
      have h1 : (l.map fun y => (ser n y).length).sum ≤ (l.map fun y => 2 * bulk n y).sum := sum_le (fun y _ => ser_len n y)
      rw [sum_mul] at h1
      omega
theorem bulk_wf : ∀ (n : Nat) (x : Th n), wfT n x → bulk n x ≤ 600 := by
  have hP : ∀ p : Pl, wfP p → bulkP p ≤ 600 := fun p h => by
    obtain x | r | q := p
    · show 1 ≤ 600
      omega
    · have h : r.length ≤ 64 := h
      show 1 + r.length ≤ 600
      omega
    · obtain ⟨h1, h2, h3⟩ := (show q.length ≤ 20 ∧ (q.map List.length).sum ≤ 200 ∧ _ from h)
      show 1 + (q.map fun r => 1 + r.length).sum ≤ 600
      have : ∀ l : List (List Int32), (l.map fun r => 1 + r.length).sum = l.length + (l.map List.length).sum := fun l => by
        induction l with
        | nil => rfl
        | cons a l ih =>
          rw [List.map_cons, List.map_cons, List.sum_cons, List.sum_cons, ih, List.length_cons]
          omega
      rw [this]
      omega
  intro n x h
  match n, x, h with
  | 0, p, h => exact hP p h
  | n + 1, x, h =>
    obtain p | l := x
    · exact hP p h
    · exact h.2.1
/-! where the reference has them: its big array h, from a on, all at places of which R holds -/
def LayR (h : Nat → Int32) (R : Nat → Prop) (a : Nat) (r : List Int32) : Prop := (∀ y, a ≤ y → y < a + 2 + r.length → R y) ∧ h a = 1 ∧ h (a + 1) = Int32.ofNat r.length ∧ ∀ i (hi : i < r.length), h (a + 2 + i) = r[i]
def LayP (h : Nat → Int32) (R : Nat → Prop) (a : Nat) : Pl → Prop
  | .inl _ => False
  | .inr (.inl r) => LayR h R a r
  | .inr (.inr q) => (∀ y, a ≤ y → y < a + 2 + q.length → R y) ∧ h a = 2 ∧ h (a + 1) = Int32.ofNat q.length ∧ ∀ i (hi : i < q.length), ∃ b : Nat, Int32.ofNat a + h (a + 2 + i) = Int32.ofNat b ∧ LayR h R b q[i]
/-- the INT that a THING is -/
def intP : Pl → Option Int32
  | .inl x => some x
  | _ => none
def intT : (n : Nat) → Th n → Option Int32
  | 0, p => intP p
  | n + 1, x => match (show Pl ⊕ List (Th n) from x) with
    | .inl p => intP p
    | .inr _ => none
def Lay : (n : Nat) → (h : Nat → Int32) → (R : Nat → Prop) → (a : Nat) → Th n → Prop
  | 0, h, R, a, p => LayP h R a p
  | n + 1, h, R, a, x => match (show Pl ⊕ List (Th n) from x) with
    | .inl p => LayP h R a p
    | .inr l => (∀ y, a ≤ y → y < a + 2 + 2 * l.length → R y) ∧ h a = 3 ∧ h (a + 1) = Int32.ofNat l.length ∧ ∀ i (hi : i < l.length), (∀ z, intT n l[i] = some z → h (a + 2 + 2 * i) = 0 ∧ h (a + 3 + 2 * i) = z) ∧ (intT n l[i] = none → h (a + 2 + 2 * i) = 1 ∧ ∃ b : Nat, Int32.ofNat a + h (a + 3 + 2 * i) = Int32.ofNat b ∧ Lay n h R b l[i])
section LY2
variable {h h' : Nat → Int32} {R R' : Nat → Prop} {a : Nat}
theorem LayR.congr (hR : ∀ y, R y → R' y) (hh : ∀ y, R y → h' y = h y) {r : List Int32} (H : LayR h R a r) : LayR h' R' a r := by
  obtain ⟨h1, h3, h4, h5⟩ := H
  exact ⟨fun y p q => hR y (h1 y p q), by rw [hh _ (h1 _ (Nat.le_refl _) (by omega))]; exact h3, by rw [hh _ (h1 _ (by omega) (by omega))]; exact h4, fun i hi => by rw [hh _ (h1 _ (by omega) (by omega))]; exact h5 i hi⟩
theorem LayP.congr (hR : ∀ y, R y → R' y) (hh : ∀ y, R y → h' y = h y) {p : Pl} (H : LayP h R a p) : LayP h' R' a p := by
  obtain x | r | q := p
  · exact H
  · exact LayR.congr hR hh H
  · obtain ⟨h1, h3, h4, h5⟩ := H
    refine ⟨fun y p q => hR y (h1 y p q), by rw [hh _ (h1 _ (Nat.le_refl _) (by omega))]; exact h3, by rw [hh _ (h1 _ (by omega) (by omega))]; exact h4, fun i hi => ?_⟩
    obtain ⟨b, g1, g2⟩ := h5 i hi
    exact ⟨b, by rw [hh _ (h1 _ (by omega) (by omega))]; exact g1, g2.congr hR hh⟩
theorem Lay.congr (hR : ∀ y, R y → R' y) (hh : ∀ y, R y → h' y = h y) : ∀ (n : Nat) {a : Nat} {x : Th n}, Lay n h R a x → Lay n h' R' a x
  | 0, _, _, H => LayP.congr hR hh H
  | n + 1, a, x, H => by
    obtain p | l := x
    · exact LayP.congr (a := a) (p := p) hR hh H
    · obtain ⟨h1, h3, h4, h5⟩ := H
      refine ⟨fun y p q => hR y (h1 y p q), by rw [hh _ (h1 _ (Nat.le_refl _) (by omega))]; exact h3, by rw [hh _ (h1 _ (by omega) (by omega))]; exact h4, fun i hi => ⟨fun z hz => ?_, fun hz => ?_⟩⟩
      · obtain ⟨g1, g2⟩ := (h5 i hi).1 z hz
        exact ⟨by rw [hh _ (h1 _ (by omega) (by omega))]; exact g1, by rw [hh _ (h1 _ (by omega) (by omega))]; exact g2⟩
      · obtain ⟨g1, b, g2, g3⟩ := (h5 i hi).2 hz
        exact ⟨by rw [hh _ (h1 _ (by omega) (by omega))]; exact g1, b, by rw [hh _ (h1 _ (by omega) (by omega))]; exact g2, Lay.congr hR hh n g3⟩
theorem LayP.kd {p : Pl} (H : LayP h R a p) : h a = kdP p ∧ R a := by
  obtain x | r | q := p
  · exact H.elim
  · exact ⟨H.2.1, H.1 _ (Nat.le_refl _) (by omega)⟩
  · exact ⟨H.2.1, H.1 _ (Nat.le_refl _) (by omega)⟩
theorem Lay.kd : ∀ (n : Nat) {x : Th n}, Lay n h R a x → h a = kdT n x ∧ R a
  | 0, p, H => LayP.kd (p := p) H
  | n + 1, x, H => by
    obtain p | l := x
    · exact LayP.kd (p := p) H
    · exact ⟨H.2.1, H.1 _ (Nat.le_refl _) (by omega)⟩
end LY2
/-- slot k's places -/
def Rk (k : Nat) (y : Nat) : Prop := 2410 * k ≤ y ∧ y < 2410 * k + 2410
/-- slot k of the reference has this -/
def rSl (h : Nat → Int32) (k : Nat) : Option (Th 4) → Prop
  | none => h (2410 * k) = -1
  | some x => match intT 4 x with
    | some z => h (2410 * k) = 0 ∧ h (2410 * k + 1) = z
    | none => Lay 4 h (Rk k) (2410 * k) x
/-- numbers of what may be bare -/
def serO : Option (Th 4) → List Int32
  | none => []
  | some x => ser 4 x
theorem int_ser {x : Th 4} {z : Int32} (h : intT 4 x = some z) : ser 4 x = [0, z] := by
  obtain p | l := x
  · obtain y | r | q := p
    · cases h
      rfl
    · cases h
    · cases h
  · cases h
theorem rSl.congr {h h' : Nat → Int32} {k : Nat} {x : Option (Th 4)} (hh : ∀ y, Rk k y → h' y = h y) (H : rSl h k x) : rSl h' k x := by
  cases x with
  | none => exact (hh _ ⟨Nat.le_refl _, by omega⟩).trans H
  | some x =>
    unfold rSl at H ⊢
    dsimp only at H ⊢
    split at H
    · exact ⟨(hh _ ⟨Nat.le_refl _, by omega⟩).trans H.1, (hh _ ⟨by omega, by omega⟩).trans H.2⟩
    · exact Lay.congr (fun _ q => q) hh 4 H
def kdO : Option (Th 4) → Int32
  | none => -1
  | some y => kdT 4 y
/-- slot k's first number -/
theorem rSl.hd {h : Nat → Int32} {k : Nat} {x : Option (Th 4)} (H : rSl h k x) : h (2410 * k) = kdO x := by
  cases x with
  | none => exact H
  | some x =>
    unfold rSl at H
    dsimp only at H ⊢
    split at H
    · rename_i z hz
      have := int_ser hz
      obtain ⟨l, hl⟩ := ser_kd 4 x
      rw [hl] at this
      rw [H.1]
      exact (List.cons.inj this).1.symm
    · exact (Lay.kd 4 H).1
