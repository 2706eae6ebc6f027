/-! ===== PURE: run (22): the signs between two values: what they ask ===== -/
/-- loops whose rounds take up to C steps each -/
theorem lpo {α β : Type} (L : Nat → Nat → α → β) (n C : Nat) (P : Nat → α → Prop) (Q : β → Prop) (hs : ∀ F i a, i < n → P i a → (∃ a' F', P (i + 1) a' ∧ F ≤ F' ∧ L (F + C) i a = L F' (i + 1) a') ∨ Q (L (F + C) i a)) (he : ∀ F a, P n a → Q (L (F + 1) n a)) : ∀ (d i F : Nat) (a : α), i + d = n → d * C < F → P i a → Q (L F i a) := by
  intro d
  induction d with
  | zero =>
    intro i F a hi hF hP
    have hi : i = n := hi
    subst hi
    obtain ⟨F1, rfl⟩ : ∃ F1, F = F1 + 1 := ⟨F - 1, by omega⟩
    exact he F1 a hP
  | succ d ih =>
    intro i F a hi hF hP
    rw [Nat.succ_mul] at hF
    obtain ⟨F1, rfl⟩ : ∃ F1, F = F1 + C := ⟨F - C, by omega⟩
    rcases hs F1 i a (by omega) hP with ⟨a', F', h1, h2, h3⟩ | h
    · rw [h3]
      exact ih (i + 1) F' a' (by omega) (by omega) h1
    · exact h
/-- rounds alone, the fuel told -/
theorem lpi {α β : Type} (L : Nat → Nat → α → β) (n : Nat) (P : Nat → α → Prop) (Q : β → Prop) (hs : ∀ F i a, i < n → P i a → (∃ a', P (i + 1) a' ∧ L (F + 1) i a = L F (i + 1) a') ∨ Q (L (F + 1) i a)) : ∀ (d i F : Nat) (a : α), i + d = n → P i a → (∃ a', P n a' ∧ L (F + d) i a = L F n a') ∨ Q (L (F + d) i a) := by
  intro d
  induction d with
  | zero =>
    intro i F a hi hP
    have hi : i = n := hi
    subst hi
    exact Or.inl ⟨a, hP, rfl⟩
  | succ d ih =>
    intro i F a hi hP
    rcases hs (F + d) i a (by omega) hP with ⟨a', h1, h2⟩ | h
    · rw [show F + (d + 1) = F + d + 1 by omega, h2]
      exact ih (i + 1) F a' (by omega) h1
    · exact Or.inr h
abbrev Opd : Type := Int32 ⊕ List Int32
/-- row i of a value: an INT stands for a ROW of as many as are asked for -/
def bsdV (V : Vw) (i : Nat) : Opd := match V with
  | .inl z => .inl z
  | .inr (.inl r) => .inr r
  | .inr (.inr (.inl q)) => .inr (q.getD i [])
  | .inr (.inr (.inr _)) => .inr []
abbrev bsd (x : Nod) (i : Nat) : Opd := bsdV (vw x) i
def at2 (p : Opd) (j : Nat) : Int32 := match p with
  | .inl z => z
  | .inr r => r.getD j 0
def rsz (p q : Opd) : Nat := match p, q with
  | .inr r, _ => r.length
  | .inl _, .inr r => r.length
  | .inl _, .inl _ => 0
def unl (p q : Opd) : Bool := match p, q with
  | .inr r, .inr r' => !(r.length == r'.length)
  | _, _ => false
abbrev dv (s : Nat) : Bool := s == 47 || s == 37
/-- what a sign (the reference's number) does -/
def ac (s : Nat) (a b : Int32) : Int32 := if s = 43 then a + b else if s = 45 then a - b else if s = 42 then a * b else if s = 47 then (if b = 0 then 0 else a / b) else if s = 37 then (if b = 0 then 0 else a - a / b * b) else if s = 38 then a &&& b else if s = 124 then a ||| b else if s = 256 then bI (decide (a = b)) else if s = 257 then bI (decide (¬ a = b)) else if s = 60 then bI (decide (a < b)) else if s = 258 then bI (decide (a ≤ b)) else if s = 62 then bI (decide (b < a)) else bI (decide (b ≤ a))
def isS (s : Nat) : Prop := s = 43 ∨ s = 45 ∨ s = 42 ∨ s = 47 ∨ s = 37 ∨ s = 38 ∨ s = 124 ∨ s = 256 ∨ s = 257 ∨ s = 60 ∨ s = 258 ∨ s = 62 ∨ s = 259
/-- the class's number of a sign -/
def sgC (s : Nat) : Nat := if s = 256 then 317 else if s = 257 then 289 else if s = 258 then 316 else if s = 259 then 318 else s
def row2 (s : Nat) (p q : Opd) : List Int32 := (List.range (rsz p q)).map fun j => ac s (at2 p j) (at2 q j)
def bad2 (s : Nat) (p q : Opd) : Bool := (List.range (rsz p q)).any fun j => dv s && (at2 q j == 0)
def rws (x y : Nod) : Nat := if kn x = 2 then szN x else if kn y = 2 then szN y else 1
def unkT (x y : Nod) : Bool := (kn x == 2 && kn y == 2 && !(szN x == szN y)) || (List.range (rws x y)).any fun i => unl (bsd x i) (bsd y i)
def bdk (s : Nat) (x y : Nod) : Bool := (List.range (rws x y)).any fun i => bad2 s (bsd x i) (bsd y i)
def ansT (s : Nat) (x y : Nod) : Ans := if kn x = 3 ∨ kn y = 3 then .inl 3 else if kn x = 0 ∧ kn y = 0 then (if (dv s && (ivN y == 0)) = true then .inl 6 else .inr (nZ (ac s (ivN x) (ivN y)))) else if unkT x y = true then .inl 4 else if bdk s x y = true then .inl 6 else if kn x = 2 ∨ kn y = 2 then ansM 2 ((List.range (rws x y)).map fun i => nR (row2 s (bsd x i) (bsd y i))) else ansM 1 ((row2 s (bsd x 0) (bsd y 0)).map nZ)
section TW0
variable {N sg : Nat} {s : mS} {X : Nat → Option zz_C} {t : cS}
theorem r_act (hs : isS sg) {a b : Int32} (h : ¬ (dv sg = true ∧ b = 0)) : mf_319 N (Int32.ofNat sg) a b s = some (s, some (.int (ac sg a b))) := by
  have e1 : ∀ {p : Prop} [Decidable p], bI (decide p) = if p then Int32.ofNat 1 else Int32.ofNat 0 := fun {p} _ => by
    by_cases z : p
    · rw [if_pos z, decide_eq_true z]
      rfl
    · rw [if_neg z, decide_eq_false z]
      rfl
  rcases hs with rfl | rfl | rfl | rfl | rfl | rfl | rfl | rfl | rfl | rfl | rfl | rfl | rfl
  · rfl
  · rfl
  · rfl
  · have hb : ¬ b = 0 := fun z => h ⟨rfl, z⟩
    show (if ¬ b = 0 then some (s, some (Value.int (a / b))) else none) = some (s, some (Value.int (if b = 0 then 0 else a / b)))
    rw [if_pos hb, if_neg hb]
  · have hb : ¬ b = 0 := fun z => h ⟨rfl, z⟩
    show (if ¬ b = 0 then some (s, some (Value.int (a - a / b * b))) else none) = some (s, some (Value.int (if b = 0 then 0 else a - a / b * b)))
    rw [if_pos hb, if_neg hb]
  · rfl
  · rfl
  · show (if ¬ a = b then some (s, some (Value.int 0)) else some (s, some (Value.int 1))) = some (s, some (Value.int (bI (decide (a = b)))))
    rw [e1]
    by_cases z : a = b
    · rw [if_neg (fun y => y z), if_pos z]
      rfl
    · rw [if_pos z, if_neg z]
      rfl
  · show (if a = b then some (s, some (Value.int 0)) else some (s, some (Value.int 1))) = some (s, some (Value.int (bI (decide (¬ a = b)))))
    rw [e1]
    by_cases z : a = b
    · rw [if_pos z, if_neg (fun y => y z)]
      rfl
    · rw [if_neg z, if_pos z]
      rfl
  · show (if b ≤ a then some (s, some (Value.int 0)) else some (s, some (Value.int 1))) = some (s, some (Value.int (bI (decide (a < b)))))
    rw [e1]
    by_cases z : a < b
    · rw [if_pos z, if_neg (Int32.not_le.mpr z)]
      rfl
    · rw [if_neg z, if_pos (Int32.not_lt.mp z)]
      rfl
  · show (if b < a then some (s, some (Value.int 0)) else some (s, some (Value.int 1))) = some (s, some (Value.int (bI (decide (a ≤ b)))))
    rw [e1]
    by_cases z : a ≤ b
    · rw [if_pos z, if_neg (Int32.not_lt.mpr z)]
      rfl
    · rw [if_neg z, if_pos (Int32.not_le.mp z)]
      rfl
  · show (if a ≤ b then some (s, some (Value.int 0)) else some (s, some (Value.int 1))) = some (s, some (Value.int (bI (decide (b < a)))))
    rw [e1]
    by_cases z : b < a
    · rw [if_pos z, if_neg (Int32.not_le.mpr z)]
      rfl
    · rw [if_neg z, if_pos (Int32.not_lt.mp z)]
      rfl
  · show (if a < b then some (s, some (Value.int 0)) else some (s, some (Value.int 1))) = some (s, some (Value.int (bI (decide (b ≤ a)))))
    rw [e1]
    by_cases z : b ≤ a
    · rw [if_pos z, if_neg (Int32.not_lt.mpr z)]
      rfl
    · rw [if_neg z, if_pos (Int32.not_le.mp z)]
      rfl
theorem c_act (hs : isS sg) {a b : Int32} : cf_230 N X (Int32.ofNat (sgC sg)) a b t = some (if (dv sg && (b == 0)) = true then jI t 58 1 1 else t, .inl (some (.int (ac sg a b)))) := by
  have e1 : ∀ {p : Prop} [Decidable p], bI (decide p) = if p then Int32.ofNat 1 else Int32.ofNat 0 := fun {p} _ => by
    by_cases z : p
    · rw [if_pos z, decide_eq_true z]
      rfl
    · rw [if_neg z, decide_eq_false z]
      rfl
  have e2 : (b == 0) = decide (b = 0) := rfl
  rw [e2]
  rcases hs with rfl | rfl | rfl | rfl | rfl | rfl | rfl | rfl | rfl | rfl | rfl | rfl | rfl
  · rfl
  · rfl
  · rfl
  · by_cases z : b = 0
    · subst z
      rfl
    · rw [decide_eq_false z, show ac 47 a b = a / b from if_neg z]
      show ko_call 8 (cf_231 N X 47 a b t) _ = _
      unfold cf_231 cf_231_0 cf_231_11 cf_231_17
      rw [if_pos z, if_neg (fun y => y rfl), if_pos z]
      rfl
  · by_cases z : b = 0
    · subst z
      rfl
    · rw [decide_eq_false z, show ac 37 a b = a - a / b * b from if_neg z]
      show ko_call 8 (cf_231 N X 37 a b t) _ = _
      unfold cf_231 cf_231_0 cf_231_11 cf_231_23
      rw [if_pos z, if_pos (by decide), if_pos z]
      rfl
  · rfl
  · rfl
  · show ko_call 0 (if ¬ a = b then some (t, .inl (some (Value.int 0))) else some (t, .inl (some (Value.int 1)))) _ = some (t, .inl (some (Value.int (bI (decide (a = b))))))
    rw [e1]
    by_cases z : a = b
    · rw [if_neg (fun y => y z), if_pos z]
      rfl
    · rw [if_pos z, if_neg z]
      rfl
  · show ko_call 0 (if a = b then some (t, .inl (some (Value.int 0))) else some (t, .inl (some (Value.int 1)))) _ = some (t, .inl (some (Value.int (bI (decide (¬ a = b))))))
    rw [e1]
    by_cases z : a = b
    · rw [if_pos z, if_neg (fun y => y z)]
      rfl
    · rw [if_neg z, if_pos z]
      rfl
  · show ko_call 0 (if b ≤ a then some (t, .inl (some (Value.int 0))) else some (t, .inl (some (Value.int 1)))) _ = some (t, .inl (some (Value.int (bI (decide (a < b))))))
    rw [e1]
    by_cases z : a < b
    · rw [if_pos z, if_neg (Int32.not_le.mpr z)]
      rfl
    · rw [if_neg z, if_pos (Int32.not_lt.mp z)]
      rfl
  · show ko_call 0 (if b < a then some (t, .inl (some (Value.int 0))) else some (t, .inl (some (Value.int 1)))) _ = some (t, .inl (some (Value.int (bI (decide (a ≤ b))))))
    rw [e1]
    by_cases z : a ≤ b
    · rw [if_pos z, if_neg (Int32.not_lt.mpr z)]
      rfl
    · rw [if_neg z, if_pos (Int32.not_le.mp z)]
      rfl
  · show ko_call 0 (if a ≤ b then some (t, .inl (some (Value.int 0))) else some (t, .inl (some (Value.int 1)))) _ = some (t, .inl (some (Value.int (bI (decide (b < a))))))
    rw [e1]
    by_cases z : b < a
    · rw [if_pos z, if_neg (Int32.not_le.mpr z)]
      rfl
    · rw [if_neg z, if_pos (Int32.not_lt.mp z)]
      rfl
  · show ko_call 0 (if a < b then some (t, .inl (some (Value.int 0))) else some (t, .inl (some (Value.int 1)))) _ = some (t, .inl (some (Value.int (bI (decide (b ≤ a))))))
    rw [e1]
    by_cases z : b ≤ a
    · rw [if_pos z, if_neg (Int32.not_lt.mpr z)]
      rfl
    · rw [if_neg z, if_pos (Int32.not_le.mp z)]
      rfl
end TW0
