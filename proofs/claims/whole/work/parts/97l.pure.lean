/-! ===== PURE: run (65): does a value suit a built-in (the reference) ===== -/
section SUI
variable {N : Nat} {s : mS} {b i k f : Nat}
/-- does a value of kind k suit as the i-th of built-in b, whose first is of kind f -/
def suB (b i k f : Nat) : Bool :=
  if b = 5 ∨ b = 8 ∨ b = 27 then true
  else if i = 0 then
    if b < 4 ∨ b = 20 ∨ b = 21 then k == 0
    else if b = 4 ∨ b = 14 ∨ b = 18 ∨ b = 22 ∨ b = 24 ∨ b = 26 then k == 1
    else if b = 6 ∨ b = 15 ∨ b = 23 then 0 < k
    else if b = 7 ∨ b = 17 ∨ b = 25 then k == 2
    else if b = 9 then k < 3
    else if 10 ≤ b ∧ b ≤ 13 then k == 1 || k == 2
    else b != 16 || 1 < k
  else if b = 3 ∨ b = 25 then k == 0
  else if b = 20 ∨ b = 21 then 0 < k
  else if b = 24 then k < 2
  else if b = 19 then f == 3 || k == 3 || (if f = 2 then decide (0 < k) else if k = 2 then f == 1 else true)
  else k == 1
def suI (c : Bool) : Int32 := if c then Int32.ofNat 1 else Int32.ofNat 0
theorem r_suit5 {i' k' f' : Int32} : mf_327 N (Int32.ofNat 5) i' k' f' s = some (s, some (.int (Int32.ofNat 1))) := rfl
theorem r_suit0 (hk : k < 4) (hf : f < 4) (hb : b < 28) (hi : i = 0 ∨ i = 1) : mf_327 N (Int32.ofNat b) (Int32.ofNat i) (Int32.ofNat k) (Int32.ofNat f) s = some (s, some (.int (suI (suB b i k f)))) := by
  have h1 : b = 0 ∨ b = 1 ∨ b = 2 ∨ b = 3 ∨ b = 4 ∨ b = 5 ∨ b = 6 ∨ b = 7 ∨ b = 8 ∨ b = 9 ∨ b = 10 ∨ b = 11 ∨ b = 12 ∨ b = 13 ∨ b = 14 ∨ b = 15 ∨ b = 16 ∨ b = 17 ∨ b = 18 ∨ b = 19 ∨ b = 20 ∨ b = 21 ∨ b = 22 ∨ b = 23 ∨ b = 24 ∨ b = 25 ∨ b = 26 ∨ b = 27 := by omega
  have h2 : k = 0 ∨ k = 1 ∨ k = 2 ∨ k = 3 := by omega
  have h3 : f = 0 ∨ f = 1 ∨ f = 2 ∨ f = 3 := by omega
  rcases hi with rfl | rfl <;> rcases h2 with rfl | rfl | rfl | rfl <;> rcases h3 with rfl | rfl | rfl | rfl <;> rcases h1 with rfl | rfl | rfl | rfl | rfl | rfl | rfl | rfl | rfl | rfl | rfl | rfl | rfl | rfl | rfl | rfl | rfl | rfl | rfl | rfl | rfl | rfl | rfl | rfl | rfl | rfl | rfl | rfl <;> rfl
end SUI
