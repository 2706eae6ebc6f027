/-! ===== PURE: the class builds a THING ===== -/
def ivN (x : Nod) : Int32 := (intV (vw x)).getD 0
def rvN (x : Nod) : List Int32 := match vw x with
  | .inr (.inl r) => r
  | _ => []
abbrev kdN (x : Nod) : Int32 := kdV (vw x)
abbrev szN (x : Nod) : Nat := szV (vw x)
def mkR (xs : List Nod) : Nod := ⟨4, .inl (.inr (.inl (xs.map ivN)))⟩
def mkT (xs : List Nod) : Nod := ⟨4, .inl (.inr (.inr (xs.map rvN)))⟩
def mkP (xs : List Nod) : Nod := ⟨4, .inr (xs.map (cs 3))⟩
/-- what is built of these, if it isn't too great -/
def mk (k : Nat) (xs : List Nod) : Option Nod := if k = 1 then (if xs.length ≤ 64 then some (mkR xs) else none) else if k = 2 then (if xs.length ≤ 20 ∧ (xs.map szN).sum ≤ 200 then some (mkT xs) else none) else (if xs.length ≤ 20 ∧ 1 + (xs.map bulkN).sum ≤ 600 ∧ 1 + mxL (xs.map dN) ≤ 4 then some (mkP xs) else none)
/-- its parts are of the kind that it wants -/
def mkOk (k : Nat) (xs : List Nod) : Prop := (k = 1 ∧ ∀ x ∈ xs, kdN x = 0) ∨ (k = 2 ∧ ∀ x ∈ xs, kdN x = 1) ∨ k = 3
theorem kd0 {x : Nod} (h : kdN x = 0) : vw x = .inl (ivN x) := by
  unfold ivN
  have h : kdV (vw x) = 0 := h
  generalize vw x = v at h
  obtain z | r | q | l := v
  · rfl
  · exact absurd h (show ¬ (1 : Int32) = 0 by decide)
  · exact absurd h (show ¬ (2 : Int32) = 0 by decide)
  · exact absurd h (show ¬ (3 : Int32) = 0 by decide)
theorem kd1 {x : Nod} (h : kdN x = 1) : vw x = vR (rvN x) := by
  unfold rvN
  have h : kdV (vw x) = 1 := h
  generalize vw x = v at h
  obtain z | r | q | l := v
  · exact absurd h (show ¬ (0 : Int32) = 1 by decide)
  · rfl
  · exact absurd h (show ¬ (2 : Int32) = 1 by decide)
  · exact absurd h (show ¬ (3 : Int32) = 1 by decide)
/-- the mark of a refusal -/
abbrev rf (k : Int32) : Int64 := 17179869184 ||| Int32.toInt64 k
theorem jB_jB {t : cS} {k : Nat} {g g' : Nat → Int64} : jB (jB t k g) k g' = jB t k g' := by
  have e : (fun a => if a = k then ((kB (jB t k g) k).1, g') else kB (jB t k g) a) = fun a => if a = k then ((kB t k).1, g') else kB t a := by
    funext a
    by_cases c : a = k
    · rw [if_pos c, if_pos c]
      show ((if k = k then ((kB t k).1, g) else kB t k).1, g') = _
      rw [if_pos rfl]
    · rw [if_neg c, if_neg c]
      exact if_neg c
  show (kI t, kL t, kP t, kA t, _, t.2.2.2.2.2) = (kI t, kL t, kP t, kA t, _, t.2.2.2.2.2)
  rw [e]
theorem jB_id {t : cS} {k : Nat} : jB t k (kB t k).2 = t := by
  have e : (fun a => if a = k then ((kB t k).1, (kB t k).2) else kB t a) = kB t := by
    funext a
    by_cases c : a = k
    · rw [if_pos c, c]
    · rw [if_neg c]
  show (kI t, kL t, kP t, kA t, _, t.2.2.2.2.2) = t
  rw [e]
  rfl
section CBD
variable {N : Nat} {X : Nat → Option zz_C} {t : cS} {u f : Nat} {xs : List Nod}
/-- what a part comes to in a cell -/
def fv (k : Nat) (v : Int64) : Int64 := if k = 3 then v else Int32.toInt64 (Int64.toInt32 v)
def fil (t : cS) (g : Nat → Int64) (k f u n i : Nat) : Nat → Int64 := fun y => if u + k + i ≤ y ∧ y < u + k + n then fv k (prt t (f + (y - (u + k)))) else g y
theorem c_fill {k n : Nat} (hk : k = 1 ∨ k = 2 ∨ k = 3) (hu : u + k + n ≤ (kB t 43).1) (h43 : (kB t 43).1 < 350000) (hf : f + n ≤ (kB t 44).1) (h44 : (kB t 44).1 < 130000) : ∀ (d i q : Nat) (g : Nat → Int64), i + d = n → cf_126_L6 N X (q + (d + 1)) 0 (Int32.ofNat k) (Int32.ofNat f) (Int32.ofNat n) (Int32.ofNat u) (Int32.ofNat i) (jB t 43 g) = some (jB t 43 (fil t g k f u n i), .inl (some (.long (tg (Int32.ofNat k) (Int32.ofNat u))))) := by
  intro d
  induction d with
  | zero =>
    intro i q g hi
    have hi : i = n := hi
    have e : fil t g k f u n i = g := by
      funext y
      exact if_neg (by omega)
    rw [e]
    show cf_126_275 N X (cf_126_L6 N X q) (Int32.ofNat k) (Int32.ofNat f) (Int32.ofNat n) (Int32.ofNat u) (Int32.ofNat i) (jB t 43 g) = _
    repeat ((first | unfold cf_126 | unfold cf_126_0 | unfold cf_126_11 | unfold cf_126_15 | unfold cf_126_19 | unfold cf_126_20 | unfold cf_126_34 | unfold cf_126_39 | unfold cf_126_47 | unfold cf_126_54 | unfold cf_126_65 | unfold cf_126_68 | unfold cf_126_79 | unfold cf_126_95 | unfold cf_126_106 | unfold cf_126_112 | unfold cf_126_117 | unfold cf_126_119 | unfold cf_126_122 | unfold cf_126_127 | unfold cf_126_135 | unfold cf_126_140 | unfold cf_126_150 | unfold cf_126_158 | unfold cf_126_162 | unfold cf_126_163 | unfold cf_126_193 | unfold cf_126_210 | unfold cf_126_224 | unfold cf_126_239 | unfold cf_126_244 | unfold cf_126_272 | unfold cf_126_275 | unfold cf_126_281 | unfold cf_126_297 | unfold cf_126_309 | unfold cf_126_320 | unfold cf_126_327 | unfold cf_126_333); try simp (disch := omega) only [ev_S, ev_C, ↓reduceIte, Nat.reduceEqDiff, Nat.reduceLeDiff, Nat.reduceAdd, Nat.reduceMul, Nat.reduceSub, reduceCtorEq, l32_0, l32_1, l32_2, l32_3, l32_4, l32_20, l32_42, l32_43, l32_44, l32_64, l32_200, l32_600, c_thing])
  | succ d ih =>
    intro i q g hi
    have h3 : cf_126_L6 N X (q + (d + 1 + 1)) 0 (Int32.ofNat k) (Int32.ofNat f) (Int32.ofNat n) (Int32.ofNat u) (Int32.ofNat i) (jB t 43 g) = cf_126_L6 N X (q + (d + 1)) 0 (Int32.ofNat k) (Int32.ofNat f) (Int32.ofNat n) (Int32.ofNat u) (Int32.ofNat (i + 1)) (jB t 43 (vp_updL g (u + k + i) (fv k (prt t (f + i))))) := by
      show cf_126_275 N X (cf_126_L6 N X (q + (d + 1))) (Int32.ofNat k) (Int32.ofNat f) (Int32.ofNat n) (Int32.ofNat u) (Int32.ofNat i) (jB t 43 g) = _
      have g1 : f + i < (kB t 44).1 := by omega
      have g2 : u + k + i < (kB t 43).1 := by omega
      rcases hk with rfl | rfl | rfl
      · repeat ((first | unfold cf_126 | unfold cf_126_0 | unfold cf_126_11 | unfold cf_126_15 | unfold cf_126_19 | unfold cf_126_20 | unfold cf_126_34 | unfold cf_126_39 | unfold cf_126_47 | unfold cf_126_54 | unfold cf_126_65 | unfold cf_126_68 | unfold cf_126_79 | unfold cf_126_95 | unfold cf_126_106 | unfold cf_126_112 | unfold cf_126_117 | unfold cf_126_119 | unfold cf_126_122 | unfold cf_126_127 | unfold cf_126_135 | unfold cf_126_140 | unfold cf_126_150 | unfold cf_126_158 | unfold cf_126_162 | unfold cf_126_163 | unfold cf_126_193 | unfold cf_126_210 | unfold cf_126_224 | unfold cf_126_239 | unfold cf_126_244 | unfold cf_126_272 | unfold cf_126_275 | unfold cf_126_281 | unfold cf_126_297 | unfold cf_126_309 | unfold cf_126_320 | unfold cf_126_327 | unfold cf_126_333); try simp (disch := omega) only [ev_S, ev_C, ↓reduceIte, Nat.reduceEqDiff, Nat.reduceLeDiff, Nat.reduceAdd, Nat.reduceMul, Nat.reduceSub, reduceCtorEq, l32_0, l32_1, l32_2, l32_3, l32_4, l32_20, l32_42, l32_43, l32_44, l32_64, l32_200, l32_600, jB_jB, fv])
      · repeat ((first | unfold cf_126 | unfold cf_126_0 | unfold cf_126_11 | unfold cf_126_15 | unfold cf_126_19 | unfold cf_126_20 | unfold cf_126_34 | unfold cf_126_39 | unfold cf_126_47 | unfold cf_126_54 | unfold cf_126_65 | unfold cf_126_68 | unfold cf_126_79 | unfold cf_126_95 | unfold cf_126_106 | unfold cf_126_112 | unfold cf_126_117 | unfold cf_126_119 | unfold cf_126_122 | unfold cf_126_127 | unfold cf_126_135 | unfold cf_126_140 | unfold cf_126_150 | unfold cf_126_158 | unfold cf_126_162 | unfold cf_126_163 | unfold cf_126_193 | unfold cf_126_210 | unfold cf_126_224 | unfold cf_126_239 | unfold cf_126_244 | unfold cf_126_272 | unfold cf_126_275 | unfold cf_126_281 | unfold cf_126_297 | unfold cf_126_309 | unfold cf_126_320 | unfold cf_126_327 | unfold cf_126_333); try simp (disch := omega) only [ev_S, ev_C, ↓reduceIte, Nat.reduceEqDiff, Nat.reduceLeDiff, Nat.reduceAdd, Nat.reduceMul, Nat.reduceSub, reduceCtorEq, l32_0, l32_1, l32_2, l32_3, l32_4, l32_20, l32_42, l32_43, l32_44, l32_64, l32_200, l32_600, jB_jB, fv])
      · repeat ((first | unfold cf_126 | unfold cf_126_0 | unfold cf_126_11 | unfold cf_126_15 | unfold cf_126_19 | unfold cf_126_20 | unfold cf_126_34 | unfold cf_126_39 | unfold cf_126_47 | unfold cf_126_54 | unfold cf_126_65 | unfold cf_126_68 | unfold cf_126_79 | unfold cf_126_95 | unfold cf_126_106 | unfold cf_126_112 | unfold cf_126_117 | unfold cf_126_119 | unfold cf_126_122 | unfold cf_126_127 | unfold cf_126_135 | unfold cf_126_140 | unfold cf_126_150 | unfold cf_126_158 | unfold cf_126_162 | unfold cf_126_163 | unfold cf_126_193 | unfold cf_126_210 | unfold cf_126_224 | unfold cf_126_239 | unfold cf_126_244 | unfold cf_126_272 | unfold cf_126_275 | unfold cf_126_281 | unfold cf_126_297 | unfold cf_126_309 | unfold cf_126_320 | unfold cf_126_327 | unfold cf_126_333); try simp (disch := omega) only [ev_S, ev_C, ↓reduceIte, Nat.reduceEqDiff, Nat.reduceLeDiff, Nat.reduceAdd, Nat.reduceMul, Nat.reduceSub, reduceCtorEq, l32_0, l32_1, l32_2, l32_3, l32_4, l32_20, l32_42, l32_43, l32_44, l32_64, l32_200, l32_600, jB_jB, fv])
    rw [h3, ih (i + 1) q _ (by omega)]
    have e : fil t (vp_updL g (u + k + i) (fv k (prt t (f + i)))) k f u n (i + 1) = fil t g k f u n i := by
      funext y
      unfold fil
      by_cases c : y = u + k + i
      · rw [if_neg (by omega), if_pos (by omega), c, updL_s, Nat.add_sub_cancel_left]
      · by_cases c2 : u + k + (i + 1) ≤ y ∧ y < u + k + n
        · rw [if_pos c2, if_pos (by omega)]
        · rw [if_neg c2, if_neg (by omega), updL_n c]
    rw [e]
end CBD
