-- ### 69.pure.lean.txt
section
/-! ===== PURE: the class builds a THING ===== -/
def ivN (x : Nod) : Int32 := (intV (vw x)).getD 0
def rvN (x : Nod) : List Int32 := match vw x with
  | .inr (.inl r) => r
  | _ => []
abbrev kdN (x : Nod) : Int32 := kdV (vw x)
abbrev szN (x : Nod) : Nat := szV (vw x)
def mkR (xs : List Nod) : Nod := ⟨4, .inl (.inr (.inl (xs.map ivN)))⟩
def mkT (xs : List Nod) : Nod := ⟨4, .inl (.inr (.inr (xs.map rvN)))⟩
def mkP (xs : List Nod) : Nod := ⟨4, .inr (xs.map (cs 3))⟩
/-- what is built of these, if it isn't too great -/
def mk (k : Nat) (xs : List Nod) : Option Nod := if k = 1 then (if xs.length ≤ 64 then some (mkR xs) else none) else if k = 2 then (if xs.length ≤ 20 ∧ (xs.map szN).sum ≤ 200 then some (mkT xs) else none) else (if xs.length ≤ 20 ∧ 1 + (xs.map bulkN).sum ≤ 600 ∧ 1 + mxL (xs.map dN) ≤ 4 then some (mkP xs) else none)
/-- its parts are of the kind that it wants -/
def mkOk (k : Nat) (xs : List Nod) : Prop := (k = 1 ∧ ∀ x ∈ xs, kdN x = 0) ∨ (k = 2 ∧ ∀ x ∈ xs, kdN x = 1) ∨ k = 3
theorem kd0 {x : Nod} (h : kdN x = 0) : vw x = .inl (ivN x) := by
  unfold ivN
  have h : kdV (vw x) = 0 := h
  generalize vw x = v at h
  obtain z | r | q | l := v
  · rfl
  · exact absurd h (show ¬ (1 : Int32) = 0 by decide)
  · exact absurd h (show ¬ (2 : Int32) = 0 by decide)
  · exact absurd h (show ¬ (3 : Int32) = 0 by decide)
theorem kd1 {x : Nod} (h : kdN x = 1) : vw x = vR (rvN x) := by
  unfold rvN
  have h : kdV (vw x) = 1 := h
  generalize vw x = v at h
  obtain z | r | q | l := v
  · exact absurd h (show ¬ (0 : Int32) = 1 by decide)
  · rfl
  · exact absurd h (show ¬ (2 : Int32) = 1 by decide)
  · exact absurd h (show ¬ (3 : Int32) = 1 by decide)
/-- the mark of a refusal -/
abbrev rf (k : Int32) : Int64 := 17179869184 ||| Int32.toInt64 k
theorem jB_jB {t : cS} {k : Nat} {g g' : Nat → Int64} : jB (jB t k g) k g' = jB t k g' := by
  have e : (fun a => if a = k then ((kB (jB t k g) k).1, g') else kB (jB t k g) a) = fun a => if a = k then ((kB t k).1, g') else kB t a := by
    funext a
    by_cases c : a = k
    · rw [if_pos c, if_pos c]
      show ((if k = k then ((kB t k).1, g) else kB t k).1, g') = _
      rw [if_pos rfl]
    · rw [if_neg c, if_neg c]
      exact if_neg c
  show (kI t, kL t, kP t, kA t, _, t.2.2.2.2.2) = (kI t, kL t, kP t, kA t, _, t.2.2.2.2.2)
  rw [e]
theorem jB_id {t : cS} {k : Nat} : jB t k (kB t k).2 = t := by
  have e : (fun a => if a = k then ((kB t k).1, (kB t k).2) else kB t a) = kB t := by
    funext a
    by_cases c : a = k
    · rw [if_pos c, c]
    · rw [if_neg c]
  show (kI t, kL t, kP t, kA t, _, t.2.2.2.2.2) = t
  rw [e]
  rfl
section CBD
variable {N : Nat} {X : Nat → Option zz_C} {t : cS} {u f : Nat} {xs : List Nod}
/-- what a part comes to in a cell -/
def fv (k : Nat) (v : Int64) : Int64 := if k = 3 then v else Int32.toInt64 (Int64.toInt32 v)
def fil (t : cS) (g : Nat → Int64) (k f u n i : Nat) : Nat → Int64 := fun y => if u + k + i ≤ y ∧ y < u + k + n then fv k (prt t (f + (y - (u + k)))) else g y
theorem c_fill {k n : Nat} (hk : k = 1 ∨ k = 2 ∨ k = 3) (hu : u + k + n ≤ (kB t 43).1) (h43 : (kB t 43).1 < 350000) (hf : f + n ≤ (kB t 44).1) (h44 : (kB t 44).1 < 130000) : ∀ (d i q : Nat) (g : Nat → Int64), i + d = n → cf_126_L6 N X (q + (d + 1)) 0 (Int32.ofNat k) (Int32.ofNat f) (Int32.ofNat n) (Int32.ofNat u) (Int32.ofNat i) (jB t 43 g) = some (jB t 43 (fil t g k f u n i), .inl (some (.long (tg (Int32.ofNat k) (Int32.ofNat u))))) := by
  intro d
  induction d with
  | zero =>
    intro i q g hi
    have hi : i = n := hi
    have e : fil t g k f u n i = g := by
      funext y
      exact if_neg (by omega)
    rw [e]
    show cf_126_275 N X (cf_126_L6 N X q) (Int32.ofNat k) (Int32.ofNat f) (Int32.ofNat n) (Int32.ofNat u) (Int32.ofNat i) (jB t 43 g) = _
    repeat ((first | unfold cf_126 | unfold cf_126_0 | unfold cf_126_11 | unfold cf_126_15 | unfold cf_126_19 | unfold cf_126_20 | unfold cf_126_34 | unfold cf_126_39 | unfold cf_126_47 | unfold cf_126_54 | unfold cf_126_65 | unfold cf_126_68 | unfold cf_126_79 | unfold cf_126_95 | unfold cf_126_106 | unfold cf_126_112 | unfold cf_126_117 | unfold cf_126_119 | unfold cf_126_122 | unfold cf_126_127 | unfold cf_126_135 | unfold cf_126_140 | unfold cf_126_150 | unfold cf_126_158 | unfold cf_126_162 | unfold cf_126_163 | unfold cf_126_193 | unfold cf_126_210 | unfold cf_126_224 | unfold cf_126_239 | unfold cf_126_244 | unfold cf_126_272 | unfold cf_126_275 | unfold cf_126_281 | unfold cf_126_297 | unfold cf_126_309 | unfold cf_126_320 | unfold cf_126_327 | unfold cf_126_333); try simp (disch := omega) only [ev_S, ev_C, ↓reduceIte, Nat.reduceEqDiff, Nat.reduceLeDiff, Nat.reduceAdd, Nat.reduceMul, Nat.reduceSub, reduceCtorEq, l32_0, l32_1, l32_2, l32_3, l32_4, l32_20, l32_42, l32_43, l32_44, l32_64, l32_200, l32_600, c_thing])
  | succ d ih =>
    intro i q g hi
    have h3 : cf_126_L6 N X (q + (d + 1 + 1)) 0 (Int32.ofNat k) (Int32.ofNat f) (Int32.ofNat n) (Int32.ofNat u) (Int32.ofNat i) (jB t 43 g) = cf_126_L6 N X (q + (d + 1)) 0 (Int32.ofNat k) (Int32.ofNat f) (Int32.ofNat n) (Int32.ofNat u) (Int32.ofNat (i + 1)) (jB t 43 (vp_updL g (u + k + i) (fv k (prt t (f + i))))) := by
      show cf_126_275 N X (cf_126_L6 N X (q + (d + 1))) (Int32.ofNat k) (Int32.ofNat f) (Int32.ofNat n) (Int32.ofNat u) (Int32.ofNat i) (jB t 43 g) = _
      have g1 : f + i < (kB t 44).1 := by omega
      have g2 : u + k + i < (kB t 43).1 := by omega
      rcases hk with rfl | rfl | rfl
      · repeat ((first | unfold cf_126 | unfold cf_126_0 | unfold cf_126_11 | unfold cf_126_15 | unfold cf_126_19 | unfold cf_126_20 | unfold cf_126_34 | unfold cf_126_39 | unfold cf_126_47 | unfold cf_126_54 | unfold cf_126_65 | unfold cf_126_68 | unfold cf_126_79 | unfold cf_126_95 | unfold cf_126_106 | unfold cf_126_112 | unfold cf_126_117 | unfold cf_126_119 | unfold cf_126_122 | unfold cf_126_127 | unfold cf_126_135 | unfold cf_126_140 | unfold cf_126_150 | unfold cf_126_158 | unfold cf_126_162 | unfold cf_126_163 | unfold cf_126_193 | unfold cf_126_210 | unfold cf_126_224 | unfold cf_126_239 | unfold cf_126_244 | unfold cf_126_272 | unfold cf_126_275 | unfold cf_126_281 | unfold cf_126_297 | unfold cf_126_309 | unfold cf_126_320 | unfold cf_126_327 | unfold cf_126_333); try simp (disch := omega) only [ev_S, ev_C, ↓reduceIte, Nat.reduceEqDiff, Nat.reduceLeDiff, Nat.reduceAdd, Nat.reduceMul, Nat.reduceSub, reduceCtorEq, l32_0, l32_1, l32_2, l32_3, l32_4, l32_20, l32_42, l32_43, l32_44, l32_64, l32_200, l32_600, jB_jB, fv])
      · repeat ((first | unfold cf_126 | unfold cf_126_0 | unfold cf_126_11 | unfold cf_126_15 | unfold cf_126_19 | unfold cf_126_20 | unfold cf_126_34 | unfold cf_126_39 | unfold cf_126_47 | unfold cf_126_54 | unfold cf_126_65 | unfold cf_126_68 | unfold cf_126_79 | unfold cf_126_95 | unfold cf_126_106 | unfold cf_126_112 | unfold cf_126_117 | unfold cf_126_119 | unfold cf_126_122 | unfold cf_126_127 | unfold cf_126_135 | unfold cf_126_140 | unfold cf_126_150 | unfold cf_126_158 | unfold cf_126_162 | unfold cf_126_163 | unfold cf_126_193 | unfold cf_126_210 | unfold cf_126_224 | unfold cf_126_239 | unfold cf_126_244 | unfold cf_126_272 | unfold cf_126_275 | unfold cf_126_281 | unfold cf_126_297 | unfold cf_126_309 | unfold cf_126_320 | unfold cf_126_327 | unfold cf_126_333); try simp (disch := omega) only [ev_S, ev_C, ↓reduceIte, Nat.reduceEqDiff, Nat.reduceLeDiff, Nat.reduceAdd, Nat.reduceMul, Nat.reduceSub, reduceCtorEq, l32_0, l32_1, l32_2, l32_3, l32_4, l32_20, l32_42, l32_43, l32_44, l32_64, l32_200, l32_600, jB_jB, fv])
      · repeat ((first | unfold cf_126 | unfold cf_126_0 | unfold cf_126_11 | unfold cf_126_15 | unfold cf_126_19 | unfold cf_126_20 | unfold cf_126_34 | unfold cf_126_39 | unfold cf_126_47 | unfold cf_126_54 | unfold cf_126_65 | unfold cf_126_68 | unfold cf_126_79 | unfold cf_126_95 | unfold cf_126_106 | unfold cf_126_112 | unfold cf_126_117 | unfold cf_126_119 | unfold cf_126_122 | unfold cf_126_127 | unfold cf_126_135 | unfold cf_126_140 | unfold cf_126_150 | unfold cf_126_158 | unfold cf_126_162 | unfold cf_126_163 | unfold cf_126_193 | unfold cf_126_210 | unfold cf_126_224 | unfold cf_126_239 | unfold cf_126_244 | unfold cf_126_272 | unfold cf_126_275 | unfold cf_126_281 | unfold cf_126_297 | unfold cf_126_309 | unfold cf_126_320 | unfold cf_126_327 | unfold cf_126_333); try simp (disch := omega) only [ev_S, ev_C, ↓reduceIte, Nat.reduceEqDiff, Nat.reduceLeDiff, Nat.reduceAdd, Nat.reduceMul, Nat.reduceSub, reduceCtorEq, l32_0, l32_1, l32_2, l32_3, l32_4, l32_20, l32_42, l32_43, l32_44, l32_64, l32_200, l32_600, jB_jB, fv])
    rw [h3, ih (i + 1) q _ (by omega)]
    have e : fil t (vp_updL g (u + k + i) (fv k (prt t (f + i)))) k f u n (i + 1) = fil t g k f u n i := by
      funext y
      unfold fil
      by_cases c : y = u + k + i
      · rw [if_neg (by omega), if_pos (by omega), c, updL_s, Nat.add_sub_cancel_left]
      · by_cases c2 : u + k + (i + 1) ≤ y ∧ y < u + k + n
        · rw [if_pos c2, if_pos (by omega)]
        · rw [if_neg c2, if_neg (by omega), updL_n c]
    rw [e]
end CBD
end
-- ### 70.pure.lean.txt
section
/-! ===== PURE: the class builds a THING (2) ===== -/
section CBE
variable {N : Nat} {X : Nat → Option zz_C} {t : cS} {u f k n : Nat} {xs : List Nod}
/-- room for k + n cells more -/
theorem c_room {tot dep : Int32} (hk : k = 1 ∨ k = 2 ∨ k = 3) (hh : cHp t u f) (hu : u + k + n ≤ 170000) : ∃ t2, cf_126_163 N X (Int32.ofNat k) (Int32.ofNat f) (Int32.ofNat n) tot dep t = cf_126_210 N X (Int32.ofNat k) (Int32.ofNat f) (Int32.ofNat n) tot dep (Int32.ofNat u) t2 ∧ cHp t2 (u + k + n) f ∧ hfr t t2 ∧ (∀ y, y < u → cel t2 y = cel t y) ∧ kB t2 44 = kB t 44 := by
  obtain ⟨h1, h2, h3, h4, h5, h6, h7, h8, h9⟩ := hh
  have hk9 := h9.k
  have ea : u + (k + n) = u + k + n := by omega
  by_cases c : u + k + n ≤ (kB t 43).1
  · refine ⟨jI t 42 1 (Int32.ofNat (u + k + n)), ?_, ⟨rfl, h2, c, h4, h5, h6, h7, h8, h9⟩, ⟨fun k f r => if_neg (fun q => r ⟨q.1, Or.inl q.2⟩), rfl, rfl, fun k r1 r2 r3 => ⟨rfl, rfl, rfl⟩, rfl, rfl, Nat.le_refl _, Nat.le_refl _, Nat.le_refl _⟩, fun _ _ => rfl, rfl⟩
    unfold cf_126_163
    simp (disch := omega) only [ev_S, ev_C, ↓reduceIte, Nat.reduceEqDiff, Nat.reduceLeDiff, Nat.reduceAdd, Nat.reduceMul, Nat.reduceSub, reduceCtorEq, l32_0, l32_1, l32_2, l32_3, l32_4, l32_5, l32_6, l32_7, l32_8, l32_9, l32_10, h1, ea]
  · have hl := lgc2 (a := (kB t 43).1) (b := 2 * (u + k + n)) h6 (by omega) (by omega)
    have h9a := h9.1
    unfold pot at h9a
    have hm : Nat.min (kB t 43).1 (2 * (u + k + n)) = (kB t 43).1 := Nat.min_eq_left (by omega)
    refine ⟨jMv (jNL (jI t 42 1 (Int32.ofNat (u + k + n))) (2 * (u + k + n)) (kcp 0 (kB t 43).2 (kB t 43).1)) 43, ?_, ⟨rfl, h2, ?_, h4, h5, ?_, ?_, h8, ?_⟩, ⟨fun k f r => if_neg (fun q => r ⟨q.1, Or.inl q.2⟩), rfl, rfl, fun k r1 r2 r3 => ⟨?_, ?_, ?_⟩, rfl, rfl, ?_, ?_, ?_⟩, fun y hy => ?_, rfl⟩
    · unfold cf_126_163 cf_126_193
      simp (disch := omega) only [ev_S, ev_C, ↓reduceIte, Nat.reduceEqDiff, Nat.reduceLeDiff, Nat.reduceAdd, Nat.reduceMul, Nat.reduceSub, reduceCtorEq, l32_0, l32_1, l32_2, l32_3, l32_4, l32_5, l32_6, l32_7, l32_8, l32_9, l32_10, h1, ea, hm]
    · show u + k + n ≤ 2 * (u + k + n)
      omega
    · show 1 ≤ 2 * (u + k + n)
      omega
    · show 2 * (u + k + n) < 350000
      omega
    · refine ⟨?_, h9.2⟩
      show kN t + 1 + 200 < zz_out + (lgc (2 * (u + k + n)) + lgc (kB t 44).1 + (kA t 46).1 / 64 + lgc (kB t 52).1 + lgc (kA t 55).1 + lgc (kA t 56).1 + lgc (kA t 57).1)
      omega
    · show (if k = 43 then _ else kA t k) = _
      exact if_neg r1
    · show (if k = 43 then _ else (if k = 111 then _ else kB t k)) = _
      rw [if_neg r1, if_neg r3]
    · show (if k = 43 then _ else (if k = 111 then _ else kD t k)) = _
      rw [if_neg r1, if_neg r3]
    · show kN t ≤ kN t + 1
      omega
    · show kN t + 1 + pot t ≤ kN t + (lgc (2 * (u + k + n)) + lgc (kB t 44).1 + (kA t 46).1 / 64 + lgc (kB t 52).1 + lgc (kA t 55).1 + lgc (kA t 56).1 + lgc (kA t 57).1)
      unfold pot
      omega
    · show kQ t + 2 * (u + k + n) + poq t ≤ kQ t + (2 * (2 * (u + k + n)) + 2 * (kB t 44).1 + 17 * (kA t 46).1 + 2 * (kB t 52).1 + 2 * (kA t 55).1 + 2 * (kA t 56).1 + 2 * (kA t 57).1)
      unfold poq
      omega
    · show kcp 0 (kB t 43).2 (kB t 43).1 y = _
      exact kcp_lt (by omega)
/-- a part's weight in what is built -/
def wt (k : Nat) (x : Nod) : Nat := if k = 3 then bulkN x else szN x
theorem wt_le {k : Nat} {x : Nod} (h : wfN x) : wt k x ≤ 600 := by
  have h1 := bulk_wf x.1 x.2 h
  unfold wt
  by_cases c : k = 3
  · rw [if_pos c]
    exact h1
  · rw [if_neg c]
    have h2 := vw_bulk x
    have h1 : bulkN x ≤ 600 := h1
    rw [h2] at h1
    refine Nat.le_trans ?_ h1
    show szV (vw x) ≤ bulkV (vw x)
    generalize vw x = v
    obtain z | r | q | l := v
    · exact Nat.zero_le _
    · show r.length ≤ 1 + r.length
      omega
    · show q.length ≤ 1 + (q.map fun r => 1 + r.length).sum
      rw [sum_add, sum_c]
      omega
    · show l.2.length ≤ 1 + (l.2.map (bulk l.1)).sum
      have : (l.2.map fun _ => 1).sum ≤ (l.2.map (bulk l.1)).sum := sum_le (fun y _ => bulk_pos _ _)
      rw [sum_c] at this
      omega
theorem dT_le : ∀ (n : Nat) (x : Th n), dT n x ≤ n
  | 0, _ => Nat.zero_le _
  | n + 1, x => by
    obtain p | l := x
    · exact Nat.zero_le _
    · show 1 + mxL (l.map (dT n)) ≤ n + 1
      have : mxL (l.map (dT n)) ≤ n := mxL_le.mpr (fun y hy => by
        obtain ⟨z, -, e⟩ := List.mem_map.mp hy
        rw [← e]
        exact dT_le n z)
      omega
/-- all values of a list -/
def reps (g : Nat → Int64) (u : Nat) (h : Nat → Int64) (f : Nat) (xs : List Nod) : Prop := ∀ i (hi : i < xs.length), cN g u (h (f + i)) xs[i]
theorem c_total {w : Nat} (hk : k = 2 ∨ k = 3) (hh : cHp t u w) (hr : reps (cel t) u (prt t) f xs) (hf : f + xs.length ≤ (kB t 44).1) (hw : ∀ x ∈ xs, wfN x) (hd : ∀ x ∈ xs, dN x ≤ 4) (hl : xs.length ≤ 3000) : ∀ (d i q tot dep : Nat), i + d = xs.length → tot ≤ 600 * i → dep ≤ 4 → cf_126_L23 N X (q + (d + 1)) 0 (Int32.ofNat k) (Int32.ofNat f) (Int32.ofNat xs.length) (Int32.ofNat tot) (Int32.ofNat dep) (Int32.ofNat (f + i)) t = cf_126_106 N X (Int32.ofNat k) (Int32.ofNat f) (Int32.ofNat xs.length) (Int32.ofNat (tot + ((xs.drop i).map (wt k)).sum)) (Int32.ofNat (Nat.max dep (mxL ((xs.drop i).map dN)))) t := by
  have hh' := hh
  obtain ⟨h1, h2, h3, h4, h5, h6, h7, h8, h9⟩ := hh'
  intro d
  induction d with
  | zero =>
    intro i q tot dep hi ht hdp
    have hi : i = xs.length := hi
    rw [hi, List.drop_length]
    show cf_126_34 N X (cf_126_L23 N X q) (Int32.ofNat k) (Int32.ofNat f) (Int32.ofNat xs.length) (Int32.ofNat tot) (Int32.ofNat dep) (Int32.ofNat (f + xs.length)) t = cf_126_106 N X (Int32.ofNat k) (Int32.ofNat f) (Int32.ofNat xs.length) (Int32.ofNat tot) (Int32.ofNat (Nat.max dep 0)) t
    rw [show Nat.max dep 0 = dep from Nat.max_eq_left (Nat.zero_le _)]
    unfold cf_126_34
    simp (disch := omega) only [ev_S, ev_C, ↓reduceIte, Nat.reduceEqDiff, Nat.reduceLeDiff, Nat.reduceAdd, Nat.reduceMul, Nat.reduceSub, reduceCtorEq, l32_0, l32_1, l32_2, l32_3, l32_4, l32_5, l32_6, l32_7, l32_8, l32_9, l32_10, h1]
    unfold cf_126_39
    simp (disch := omega) only [ev_S, ev_C, ↓reduceIte, Nat.reduceEqDiff, Nat.reduceLeDiff, Nat.reduceAdd, Nat.reduceMul, Nat.reduceSub, reduceCtorEq, l32_0, l32_1, l32_2, l32_3, l32_4, l32_5, l32_6, l32_7, l32_8, l32_9, l32_10, h1]
  | succ d ih =>
    intro i q tot dep hi ht hdp
    have hi1 : i < xs.length := by omega
    have hx := hr i hi1
    have hm := List.getElem_mem hi1
    have b1 := c_bulk (N := N) (X := X) hh hx
    have b2 := c_depth (N := N) (X := X) hh hx
    have b3 := c_size (N := N) (X := X) hh hx
    have q1 := wt_le (k := k) (hw _ hm)
    have q2 := hd _ hm
    have fi : f + i < (kB t 44).1 := by omega
    have fi1 : f + i + 1 = f + (i + 1) := by omega
    have hst : cf_126_L23 N X (q + (d + 1 + 1)) 0 (Int32.ofNat k) (Int32.ofNat f) (Int32.ofNat xs.length) (Int32.ofNat tot) (Int32.ofNat dep) (Int32.ofNat (f + i)) t = cf_126_L23 N X (q + (d + 1)) 0 (Int32.ofNat k) (Int32.ofNat f) (Int32.ofNat xs.length) (Int32.ofNat (tot + wt k xs[i])) (Int32.ofNat (Nat.max dep (dN xs[i]))) (Int32.ofNat (f + (i + 1))) t := by
      show cf_126_34 N X (cf_126_L23 N X (q + (d + 1))) (Int32.ofNat k) (Int32.ofNat f) (Int32.ofNat xs.length) (Int32.ofNat tot) (Int32.ofNat dep) (Int32.ofNat (f + i)) t = _
      by_cases c : dep < dN xs[i]
      · rw [show Nat.max dep (dN xs[i]) = dN xs[i] from Nat.max_eq_right (by omega)]
        rcases hk with rfl | rfl
        · have w2 : wt 2 xs[i] = szN xs[i] := rfl
          repeat ((first | unfold cf_126 | unfold cf_126_0 | unfold cf_126_11 | unfold cf_126_15 | unfold cf_126_19 | unfold cf_126_20 | unfold cf_126_34 | unfold cf_126_39 | unfold cf_126_47 | unfold cf_126_54 | unfold cf_126_65 | unfold cf_126_68 | unfold cf_126_79 | unfold cf_126_95 | unfold cf_126_106 | unfold cf_126_112 | unfold cf_126_117 | unfold cf_126_119 | unfold cf_126_122 | unfold cf_126_127 | unfold cf_126_135 | unfold cf_126_140 | unfold cf_126_150 | unfold cf_126_158 | unfold cf_126_162 | unfold cf_126_163 | unfold cf_126_193 | unfold cf_126_210 | unfold cf_126_224 | unfold cf_126_239 | unfold cf_126_244 | unfold cf_126_272 | unfold cf_126_275 | unfold cf_126_281 | unfold cf_126_297 | unfold cf_126_309 | unfold cf_126_320 | unfold cf_126_327 | unfold cf_126_333); try simp (disch := omega) only [ev_S, ev_C, ↓reduceIte, Nat.reduceEqDiff, Nat.reduceLeDiff, Nat.reduceAdd, Nat.reduceMul, Nat.reduceSub, reduceCtorEq, l32_0, l32_1, l32_2, l32_3, l32_4, l32_20, l32_42, l32_43, l32_44, l32_64, l32_200, l32_600, b1, b2, b3, fi1, w2])
        · have w2 : wt 3 xs[i] = bulkN xs[i] := rfl
          repeat ((first | unfold cf_126 | unfold cf_126_0 | unfold cf_126_11 | unfold cf_126_15 | unfold cf_126_19 | unfold cf_126_20 | unfold cf_126_34 | unfold cf_126_39 | unfold cf_126_47 | unfold cf_126_54 | unfold cf_126_65 | unfold cf_126_68 | unfold cf_126_79 | unfold cf_126_95 | unfold cf_126_106 | unfold cf_126_112 | unfold cf_126_117 | unfold cf_126_119 | unfold cf_126_122 | unfold cf_126_127 | unfold cf_126_135 | unfold cf_126_140 | unfold cf_126_150 | unfold cf_126_158 | unfold cf_126_162 | unfold cf_126_163 | unfold cf_126_193 | unfold cf_126_210 | unfold cf_126_224 | unfold cf_126_239 | unfold cf_126_244 | unfold cf_126_272 | unfold cf_126_275 | unfold cf_126_281 | unfold cf_126_297 | unfold cf_126_309 | unfold cf_126_320 | unfold cf_126_327 | unfold cf_126_333); try simp (disch := omega) only [ev_S, ev_C, ↓reduceIte, Nat.reduceEqDiff, Nat.reduceLeDiff, Nat.reduceAdd, Nat.reduceMul, Nat.reduceSub, reduceCtorEq, l32_0, l32_1, l32_2, l32_3, l32_4, l32_20, l32_42, l32_43, l32_44, l32_64, l32_200, l32_600, b1, b2, b3, fi1, w2])
      · rw [show Nat.max dep (dN xs[i]) = dep from Nat.max_eq_left (by omega)]
        rcases hk with rfl | rfl
        · have w2 : wt 2 xs[i] = szN xs[i] := rfl
          repeat ((first | unfold cf_126 | unfold cf_126_0 | unfold cf_126_11 | unfold cf_126_15 | unfold cf_126_19 | unfold cf_126_20 | unfold cf_126_34 | unfold cf_126_39 | unfold cf_126_47 | unfold cf_126_54 | unfold cf_126_65 | unfold cf_126_68 | unfold cf_126_79 | unfold cf_126_95 | unfold cf_126_106 | unfold cf_126_112 | unfold cf_126_117 | unfold cf_126_119 | unfold cf_126_122 | unfold cf_126_127 | unfold cf_126_135 | unfold cf_126_140 | unfold cf_126_150 | unfold cf_126_158 | unfold cf_126_162 | unfold cf_126_163 | unfold cf_126_193 | unfold cf_126_210 | unfold cf_126_224 | unfold cf_126_239 | unfold cf_126_244 | unfold cf_126_272 | unfold cf_126_275 | unfold cf_126_281 | unfold cf_126_297 | unfold cf_126_309 | unfold cf_126_320 | unfold cf_126_327 | unfold cf_126_333); try simp (disch := omega) only [ev_S, ev_C, ↓reduceIte, Nat.reduceEqDiff, Nat.reduceLeDiff, Nat.reduceAdd, Nat.reduceMul, Nat.reduceSub, reduceCtorEq, l32_0, l32_1, l32_2, l32_3, l32_4, l32_20, l32_42, l32_43, l32_44, l32_64, l32_200, l32_600, b1, b2, b3, fi1, w2])
        · have w2 : wt 3 xs[i] = bulkN xs[i] := rfl
          repeat ((first | unfold cf_126 | unfold cf_126_0 | unfold cf_126_11 | unfold cf_126_15 | unfold cf_126_19 | unfold cf_126_20 | unfold cf_126_34 | unfold cf_126_39 | unfold cf_126_47 | unfold cf_126_54 | unfold cf_126_65 | unfold cf_126_68 | unfold cf_126_79 | unfold cf_126_95 | unfold cf_126_106 | unfold cf_126_112 | unfold cf_126_117 | unfold cf_126_119 | unfold cf_126_122 | unfold cf_126_127 | unfold cf_126_135 | unfold cf_126_140 | unfold cf_126_150 | unfold cf_126_158 | unfold cf_126_162 | unfold cf_126_163 | unfold cf_126_193 | unfold cf_126_210 | unfold cf_126_224 | unfold cf_126_239 | unfold cf_126_244 | unfold cf_126_272 | unfold cf_126_275 | unfold cf_126_281 | unfold cf_126_297 | unfold cf_126_309 | unfold cf_126_320 | unfold cf_126_327 | unfold cf_126_333); try simp (disch := omega) only [ev_S, ev_C, ↓reduceIte, Nat.reduceEqDiff, Nat.reduceLeDiff, Nat.reduceAdd, Nat.reduceMul, Nat.reduceSub, reduceCtorEq, l32_0, l32_1, l32_2, l32_3, l32_4, l32_20, l32_42, l32_43, l32_44, l32_64, l32_200, l32_600, b1, b2, b3, fi1, w2])
    rw [hst, ih (i + 1) q (tot + wt k xs[i]) (Nat.max dep (dN xs[i])) (by omega) (by omega) (Nat.max_le.mpr ⟨hdp, q2⟩), List.drop_eq_getElem_cons hi1, List.map_cons, List.map_cons, List.sum_cons]
    rw [show tot + wt k xs[i] + ((xs.drop (i + 1)).map (wt k)).sum = tot + (wt k xs[i] + ((xs.drop (i + 1)).map (wt k)).sum) by omega]
    show _ = cf_126_106 N X (Int32.ofNat k) (Int32.ofNat f) (Int32.ofNat xs.length) _ (Int32.ofNat (Nat.max dep (Nat.max (dN xs[i]) (mxL ((xs.drop (i + 1)).map dN))))) t
    rw [show Nat.max (Nat.max dep (dN xs[i])) (mxL ((xs.drop (i + 1)).map dN)) = Nat.max dep (Nat.max (dN xs[i]) (mxL ((xs.drop (i + 1)).map dN))) from Nat.max_assoc _ _ _]
end CBE
end
-- ### 71.pure.lean.txt
section
/-! ===== PURE: the class builds a THING (3) ===== -/
theorem map_cs {l : List Nod} {α : Type} {g : Nod → α} {h : Th 3 → α} (e : ∀ x ∈ l, h (cs 3 x) = g x) : (l.map (cs 3)).map h = l.map g := by
  rw [List.map_map]
  exact List.map_congr_left e
/-- one cell more put on the heap of t2 -/
theorem hfr_jB {t : cS} {g : Nat → Int64} {k : Nat} (h : k = 43 ∨ k = 44) : hfr t (jB t k g) := by
  have h1 : pot (jB t k g) = pot t := by
    rcases h with rfl | rfl <;> rfl
  have h2 : poq (jB t k g) = poq t := by
    rcases h with rfl | rfl <;> rfl
  refine ⟨fun _ _ _ => rfl, rfl, rfl, fun q r1 r2 r3 => ⟨rfl, if_neg (by omega), rfl⟩, rfl, rfl, Nat.le_refl _, ?_, ?_⟩
  · rw [h1]
    exact Nat.le_refl _
  · rw [h2]
    exact Nat.le_refl _
theorem cHp_jB {t : cS} {u w : Nat} {g : Nat → Int64} (h : cHp t u w) : cHp (jB t 43 g) u w := h
section CBF
variable {N : Nat} {X : Nat → Option zz_C} {t : cS} {u f k : Nat} {xs : List Nod}
def totk (k : Nat) (xs : List Nod) : Nat := if k = 1 then 0 else (xs.map (wt k)).sum
def depk (k : Nat) (xs : List Nod) : Nat := if k = 1 then 0 else mxL (xs.map dN)
theorem wt_sum (hw : ∀ x ∈ xs, wfN x) : (xs.map (wt k)).sum ≤ 600 * xs.length := by
  have : (xs.map (wt k)).sum ≤ (xs.map fun _ => 600).sum := sum_le (fun x hx => wt_le (hw x hx))
  rw [sum_c] at this
  exact this
theorem c_b106a (hh : cHp t u (f + xs.length)) (hf : f + xs.length ≤ 200000) : cf_126 N X (Int32.ofNat k) (Int32.ofNat f) t = cf_126_L23 N X N 0 (Int32.ofNat k) (Int32.ofNat f) (Int32.ofNat xs.length) 0 0 (Int32.ofNat f) (jI t 42 3 (Int32.ofNat f)) := by
  obtain ⟨h1, h2, h3, h4, h5, h6, h7, h8, h9⟩ := hh
  have es : f + xs.length - f = xs.length := by omega
  repeat ((first | unfold cf_126 | unfold cf_126_0 | unfold cf_126_11 | unfold cf_126_15 | unfold cf_126_19 | unfold cf_126_20 | unfold cf_126_34 | unfold cf_126_39 | unfold cf_126_47 | unfold cf_126_54 | unfold cf_126_65 | unfold cf_126_68 | unfold cf_126_79 | unfold cf_126_95 | unfold cf_126_106 | unfold cf_126_112 | unfold cf_126_117 | unfold cf_126_119 | unfold cf_126_122 | unfold cf_126_127 | unfold cf_126_135 | unfold cf_126_140 | unfold cf_126_150 | unfold cf_126_158 | unfold cf_126_162 | unfold cf_126_163 | unfold cf_126_193 | unfold cf_126_210 | unfold cf_126_224 | unfold cf_126_239 | unfold cf_126_244 | unfold cf_126_272 | unfold cf_126_275 | unfold cf_126_281 | unfold cf_126_297 | unfold cf_126_309 | unfold cf_126_320 | unfold cf_126_327 | unfold cf_126_333); try simp (disch := omega) only [ev_S, ev_C, ↓reduceIte, Nat.reduceEqDiff, Nat.reduceLeDiff, Nat.reduceAdd, Nat.reduceMul, Nat.reduceSub, reduceCtorEq, l32_0, l32_1, l32_2, l32_3, l32_4, l32_20, l32_42, l32_43, l32_44, l32_64, l32_200, l32_600, h2, es])
theorem L23_s {q : Nat} {t : cS} {x1 x2 x3 x4 x5 x6 : Int32} : cf_126_L23 N X (q + 1) 0 x1 x2 x3 x4 x5 x6 t = cf_126_34 N X (cf_126_L23 N X q) x1 x2 x3 x4 x5 x6 t := rfl
theorem c_b106b {q : Nat} {t : cS} : cf_126_L23 N X (q + 1) 0 (Int32.ofNat 1) (Int32.ofNat f) (Int32.ofNat xs.length) 0 0 (Int32.ofNat f) t = cf_126_106 N X (Int32.ofNat 1) (Int32.ofNat f) (Int32.ofNat xs.length) (Int32.ofNat (totk 1 xs)) (Int32.ofNat (depk 1 xs)) t := by
  rw [L23_s]
  have e1 : totk 1 xs = 0 := if_pos rfl
  have e2 : depk 1 xs = 0 := if_pos rfl
  unfold cf_126_34
  simp (disch := omega) only [ev_S, ↓reduceIte, l32_0, l32_1, e1, e2, Nat.reduceLeDiff]
theorem c_b106c (hk : k = 2 ∨ k = 3) (hh : cHp t u (f + xs.length)) (hr : reps (cel t) u (prt t) f xs) (hw : ∀ x ∈ xs, wfN x) (hd : ∀ x ∈ xs, dN x ≤ 4) (hl : xs.length ≤ 3000) (q : Nat) : cf_126_L23 N X (q + (xs.length + 1)) 0 (Int32.ofNat k) (Int32.ofNat f) (Int32.ofNat xs.length) 0 0 (Int32.ofNat f) (jI t 42 3 (Int32.ofNat f)) = cf_126_106 N X (Int32.ofNat k) (Int32.ofNat f) (Int32.ofNat xs.length) (Int32.ofNat (totk k xs)) (Int32.ofNat (depk k xs)) (jI t 42 3 (Int32.ofNat f)) := by
  obtain ⟨h1, h2, h3, h4, h5, h6, h7, h8, h9⟩ := hh
  have h0 : cHp (jI t 42 3 (Int32.ofNat f)) u f := ⟨h1, rfl, h3, by show f ≤ (kB t 44).1; omega, h5, h6, h7, h8, h9⟩
  have e := c_total (N := N) (X := X) (k := k) (t := jI t 42 3 (Int32.ofNat f)) (f := f) (xs := xs) hk h0 hr h4 hw hd hl xs.length 0 q 0 0 (Nat.zero_add _) (Nat.zero_le _) (Nat.zero_le _)
  rw [List.drop_zero, Nat.zero_add] at e
  unfold totk depk
  rw [if_neg (by omega), if_neg (by omega)]
  refine e.trans ?_
  rw [show Nat.max 0 (mxL (xs.map dN)) = mxL (xs.map dN) from Nat.max_eq_right (Nat.zero_le _)]
theorem c_b106 (hN : 170000 ≤ N) (hk : k = 1 ∨ k = 2 ∨ k = 3) (hh : cHp t u (f + xs.length)) (hr : reps (cel t) u (prt t) f xs) (hw : ∀ x ∈ xs, wfN x) (hd : ∀ x ∈ xs, dN x ≤ 4) (hl : xs.length ≤ 3000) (hf : f ≤ 100000) : cf_126 N X (Int32.ofNat k) (Int32.ofNat f) t = cf_126_106 N X (Int32.ofNat k) (Int32.ofNat f) (Int32.ofNat xs.length) (Int32.ofNat (totk k xs)) (Int32.ofNat (depk k xs)) (jI t 42 3 (Int32.ofNat f)) := by
  rw [c_b106a hh (by omega)]
  by_cases c : k = 1
  · have e2 : N = (N - 1) + 1 := by omega
    subst c
    generalize N - 1 = q at e2
    rw [show cf_126_L23 N X N = cf_126_L23 N X (q + 1) from congrArg _ e2]
    exact c_b106b
  · have e2 : N = (N - (xs.length + 1)) + (xs.length + 1) := by omega
    generalize N - (xs.length + 1) = q at e2
    rw [show cf_126_L23 N X N = cf_126_L23 N X (q + (xs.length + 1)) from congrArg _ e2]
    exact c_b106c (by omega) hh hr hw hd hl q
theorem mk_wf (hok : mkOk k xs) (hw : ∀ x ∈ xs, wfN x) {y : Nod} (h : mk k xs = some y) : wfN y ∧ y.1 = 4 := by
  unfold mk at h
  rcases hok with ⟨rfl, ho⟩ | ⟨rfl, ho⟩ | rfl
  · rw [if_pos rfl] at h
    split at h
    · cases h
      refine ⟨?_, rfl⟩
      show (xs.map ivN).length ≤ 64
      rw [List.length_map]
      assumption
    · cases h
  · rw [if_neg (by decide), if_pos rfl] at h
    split at h
    · rename_i c
      cases h
      refine ⟨?_, rfl⟩
      have hs : ((xs.map rvN).map List.length) = xs.map szN := by
        rw [List.map_map]
        refine List.map_congr_left (fun x hx => ?_)
        show (rvN x).length = szV (vw x)
        rw [kd1 (ho x hx)]
        rfl
      refine ⟨by rw [List.length_map]; exact c.1, by rw [hs]; exact c.2, fun r hr => ?_⟩
      obtain ⟨x, hx, rfl⟩ := List.mem_map.mp hr
      have := vw_wf x (hw x hx)
      rw [kd1 (ho x hx)] at this
      exact this
    · cases h
  · rw [if_neg (by decide), if_neg (by decide)] at h
    split at h
    · rename_i c
      cases h
      refine ⟨?_, rfl⟩
      have hd : ∀ x ∈ xs, dN x ≤ 3 := fun x hx => mxL_le.mp (show mxL (xs.map dN) ≤ 3 by omega) _ (List.mem_map.mpr ⟨x, hx, rfl⟩)
      have hb : ((xs.map (cs 3)).map (bulk 3)) = xs.map bulkN := map_cs (fun x hx => cs_bulk (hd x hx))
      refine ⟨by rw [List.length_map]; exact c.1, by rw [hb]; exact c.2.1, fun z hz => ?_⟩
      obtain ⟨x, hx, rfl⟩ := List.mem_map.mp hz
      exact cs_wf (hd x hx) (hw x hx)
    · cases h
/-- what t' is to t, where a THING has been built upon it -/
def blt (t t' : cS) (u u' f : Nat) : Prop := cHp t' u' f ∧ hfr t t' ∧ u ≤ u' ∧ (∀ y, y < u → cel t' y = cel t y) ∧ (∀ y, y < f → prt t' y = prt t y)
theorem c_build (hN : 170000 ≤ N) (hok : mkOk k xs) (hh : cHp t u (f + xs.length)) (hr : reps (cel t) u (prt t) f xs) (hw : ∀ x ∈ xs, wfN x) (hd : ∀ x ∈ xs, dN x ≤ 4) (hl : xs.length ≤ 3000) (hf : f ≤ 100000) (hu : u ≤ 166000) : (∃ y, mk k xs = some y ∧ ∃ t' v, cf_126 N X (Int32.ofNat k) (Int32.ofNat f) t = some (t', .inl (some (.long v))) ∧ blt t t' u (u + k + xs.length) f ∧ cN (cel t') (u + k + xs.length) v y) ∨ (mk k xs = none ∧ ∃ t', cf_126 N X (Int32.ofNat k) (Int32.ofNat f) t = some (t', .inl (some (.long (rf 2)))) ∧ blt t t' u u f) := by
  have hk : k = 1 ∨ k = 2 ∨ k = 3 := by
    rcases hok with ⟨h, -⟩ | ⟨h, -⟩ | h
    · exact Or.inl h
    · exact Or.inr (Or.inl h)
    · exact Or.inr (Or.inr h)
  rw [c_b106 hN hk hh hr hw hd hl hf]
  have hh' := hh
  obtain ⟨h1, h2, h3, h4, h5, h6, h7, h8, h9⟩ := hh'
  have hts := wt_sum (k := k) hw
  have hdm : mxL (xs.map dN) ≤ 4 := mxL_le.mpr (fun y hy => by
    obtain ⟨x, hx, rfl⟩ := List.mem_map.mp hy
    exact hd x hx)
  have h0 : cHp (jI t 42 3 (Int32.ofNat f)) u f := ⟨h1, rfl, h3, by show f ≤ (kB t 44).1; omega, h5, h6, h7, h8, h9⟩
  have f0 : hfr t (jI t 42 3 (Int32.ofNat f)) := ⟨fun k f r => if_neg (fun q => r ⟨q.1, Or.inr q.2⟩), rfl, rfl, fun k r1 r2 r3 => ⟨rfl, rfl, rfl⟩, rfl, rfl, Nat.le_refl _, Nat.le_refl _, Nat.le_refl _⟩
  have hno : ∃ t', cf_126_158 N X (jI t 42 3 (Int32.ofNat f)) = some (t', .inl (some (.long (rf 2)))) ∧ blt t t' u u f := ⟨_, rfl, h0, f0, Nat.le_refl _, fun _ _ => rfl, fun _ _ => rfl⟩
  -- what is built, once its size is good
  have hyes : xs.length ≤ 64 → ∀ g0 : cS → Nat → Int64, (∀ t2, cHp t2 (u + k + xs.length) f → cf_126_210 N X (Int32.ofNat k) (Int32.ofNat f) (Int32.ofNat xs.length) (Int32.ofNat (totk k xs)) (Int32.ofNat (depk k xs)) (Int32.ofNat u) t2 = cf_126_L6 N X N 0 (Int32.ofNat k) (Int32.ofNat f) (Int32.ofNat xs.length) (Int32.ofNat u) 0 (jB t2 43 (g0 t2))) → (∀ t2 y, y < u → g0 t2 y = cel t2 y) → ∃ t2 t', hfr t t2 ∧ (∀ y, y < u → cel t2 y = cel t y) ∧ kB t2 44 = kB t 44 ∧ cf_126_163 N X (Int32.ofNat k) (Int32.ofNat f) (Int32.ofNat xs.length) (Int32.ofNat (totk k xs)) (Int32.ofNat (depk k xs)) (jI t 42 3 (Int32.ofNat f)) = some (t', .inl (some (.long (tg (Int32.ofNat k) (Int32.ofNat u))))) ∧ blt t t' u (u + k + xs.length) f ∧ cel t' = fil t2 (g0 t2) k f u xs.length 0 := by
    intro hl64 g0 hg hgu
    obtain ⟨t2, r1, r2, r3, r4, r5⟩ := c_room (N := N) (X := X) (tot := Int32.ofNat (totk k xs)) (dep := Int32.ofNat (depk k xs)) (n := xs.length) hk h0 (by omega)
    have r2' := r2
    obtain ⟨a1, a2, a3, a4, a5, a6, a7, a8, a9⟩ := r2'
    have r5' : kB t2 44 = kB t 44 := r5
    have ef := c_fill (N := N) (X := X) (t := t2) (k := k) (n := xs.length) (u := u) (f := f) hk a3 a7 (by rw [r5]; exact h4) a8 xs.length 0 (N - (xs.length + 1)) (g0 t2) (Nat.zero_add _)
    rw [show N - (xs.length + 1) + (xs.length + 1) = N by omega] at ef
    refine ⟨t2, jB t2 43 (fil t2 (g0 t2) k f u xs.length 0), hfr.tr f0 r3, r4, r5, r1.trans ((hg t2 r2).trans ef), ⟨cHp_jB r2, hfr.tr f0 (hfr.tr r3 (hfr_jB (Or.inl rfl))), by omega, fun y hy => ?_, fun y hy => ?_⟩, rfl⟩
    · show fil t2 (g0 t2) k f u xs.length 0 y = _
      unfold fil
      rw [if_neg (by omega), hgu t2 y hy]
      exact r4 y hy
    · show (kB t2 44).2 y = (kB t 44).2 y
      rw [r5']
  rcases hok with ⟨rfl, ho⟩ | ⟨rfl, ho⟩ | rfl
  · by_cases c : xs.length ≤ 64
    · refine Or.inl ⟨mkR xs, by unfold mk; rw [if_pos rfl, if_pos c], ?_⟩
      obtain ⟨t2, t', q1, q2, q3, q4, q5, q6⟩ := hyes c (fun t2 => vp_updL (cel t2) u (Int32.toInt64 (Int32.ofNat xs.length))) (fun t2 ht2 => by
        obtain ⟨a1, a2, a3, a4, a5, a6, a7, a8, a9⟩ := ht2
        unfold cf_126_210 cf_126_239 cf_126_272
        simp (disch := omega) only [ev_S, ev_C, ↓reduceIte, Nat.reduceEqDiff, Nat.reduceLeDiff, Nat.reduceAdd, Nat.reduceMul, Nat.reduceSub, reduceCtorEq, l32_0, l32_1, l32_2, l32_3, l32_4, l32_5, l32_6, l32_7, l32_8, l32_9, l32_10, a1]) (fun t2 y hy => updL_n (by omega))
      refine ⟨t', tg (Int32.ofNat 1) (Int32.ofNat u), ?_, q5, ?_⟩
      · rw [← q4]
        unfold cf_126_106 cf_126_112 cf_126_119 cf_126_122 cf_126_135
        simp (disch := omega) only [ev_S, ↓reduceIte, Nat.reduceEqDiff, l32_0, l32_1, l32_2, l32_3, l32_64]
      · rw [q6]
        refine ⟨u, rfl, by rw [List.length_map]; omega, ?_, fun i hi => ?_⟩
        · unfold fil
          rw [if_neg (by omega), updL_s, List.length_map]
        · rw [List.length_map] at hi
          have hx := hr i hi
          rw [cN_iff, kd0 (ho _ (List.getElem_mem hi))] at hx
          have hx : (kB t 44).2 (f + i) = tg 0 (ivN xs[i]) := hx
          unfold fil
          rw [if_pos (by omega), show f + (u + 1 + i - (u + 1)) = f + i by omega, show prt t2 (f + i) = tg 0 (ivN xs[i]) by rw [← hx]; show (kB t2 44).2 _ = _; rw [q3], List.getElem_map]
          show Int32.toInt64 (Int64.toInt32 (tg 0 (ivN xs[i]))) = _
          rw [tg_low]
    · refine Or.inr ⟨by unfold mk; rw [if_pos rfl, if_neg c], ?_⟩
      obtain ⟨t', e1, e2⟩ := hno
      refine ⟨t', ?_, e2⟩
      rw [← e1]
      unfold cf_126_106 cf_126_112 cf_126_119
      simp (disch := omega) only [ev_S, ↓reduceIte, Nat.reduceEqDiff, l32_0, l32_1, l32_2, l32_3, l32_64]
  · have et : totk 2 xs = (xs.map szN).sum := rfl
    have hts : (xs.map szN).sum ≤ 600 * xs.length := hts
    have hlen : ((xs.map rvN).map List.length).sum = (xs.map szN).sum := by
      rw [List.map_map]
      refine congrArg List.sum (List.map_congr_left (fun x hx => ?_))
      show (rvN x).length = szV (vw x)
      rw [kd1 (ho x hx)]
      rfl
    by_cases c : xs.length ≤ 20 ∧ (xs.map szN).sum ≤ 200
    · obtain ⟨c1, c2⟩ := c
      refine Or.inl ⟨mkT xs, by unfold mk; rw [if_neg (by decide), if_pos rfl, if_pos ⟨c1, c2⟩], ?_⟩
      obtain ⟨t2, t', q1, q2, q3, q4, q5, q6⟩ := hyes (by omega) (fun t2 => vp_updL (vp_updL (cel t2) u (Int32.toInt64 (Int32.ofNat xs.length))) (u + 1) (Int32.toInt64 (Int32.ofNat (totk 2 xs)))) (fun t2 ht2 => by
        obtain ⟨a1, a2, a3, a4, a5, a6, a7, a8, a9⟩ := ht2
        unfold cf_126_210 cf_126_224 cf_126_272
        simp (disch := omega) only [ev_S, ev_C, ↓reduceIte, Nat.reduceEqDiff, Nat.reduceLeDiff, Nat.reduceAdd, Nat.reduceMul, Nat.reduceSub, reduceCtorEq, l32_0, l32_1, l32_2, l32_3, l32_4, l32_5, l32_6, l32_7, l32_8, l32_9, l32_10, a1, jB_jB]) (fun t2 y hy => by rw [updL_n (by omega), updL_n (by omega)])
      refine ⟨t', tg (Int32.ofNat 2) (Int32.ofNat u), ?_, q5, ?_⟩
      · rw [← q4]
        unfold cf_126_106 cf_126_117 cf_126_119 cf_126_122 cf_126_127 cf_126_135
        simp (disch := omega) only [ev_S, ↓reduceIte, Nat.reduceEqDiff, l32_0, l32_1, l32_2, l32_3, l32_20, l32_200, et]
      · rw [q6]
        refine ⟨u, rfl, by rw [List.length_map]; omega, ?_, ?_, fun i hi => ?_⟩
        · unfold fil
          rw [if_neg (by omega), updL_n (by omega), updL_s, List.length_map]
        · unfold fil
          rw [if_neg (by omega), updL_s, hlen, et]
        · rw [List.length_map] at hi
          have hx := hr i hi
          rw [cN_iff, kd1 (ho _ (List.getElem_mem hi))] at hx
          obtain ⟨b, b1, b2⟩ := hx
          have b1 : (kB t 44).2 (f + i) = tg 1 (Int32.ofNat b) := b1
          refine ⟨b, ?_, ?_⟩
          · unfold fil
            rw [if_pos (by omega), show f + (u + 2 + i - (u + 2)) = f + i by omega, show prt t2 (f + i) = tg 1 (Int32.ofNat b) by rw [← b1]; show (kB t2 44).2 _ = _; rw [q3]]
            show Int32.toInt64 (Int64.toInt32 (tg 1 (Int32.ofNat b))) = _
            rw [tg_low]
          · rw [List.getElem_map]
            refine b2.mono (fun y hy => ?_) (by omega)
            rw [← q6]
            exact q5.2.2.2.1 y hy
    · refine Or.inr ⟨by unfold mk; rw [if_neg (by decide), if_pos rfl, if_neg c], ?_⟩
      obtain ⟨t', e1, e2⟩ := hno
      refine ⟨t', ?_, e2⟩
      rw [← e1]
      by_cases c1 : xs.length ≤ 20
      · have c2 : 200 < (xs.map szN).sum := by omega
        unfold cf_126_106 cf_126_117 cf_126_119 cf_126_122 cf_126_127
        simp (disch := omega) only [ev_S, ↓reduceIte, Nat.reduceEqDiff, l32_0, l32_1, l32_2, l32_3, l32_20, l32_200, et]
      · unfold cf_126_106 cf_126_117 cf_126_119
        simp (disch := omega) only [ev_S, ↓reduceIte, Nat.reduceEqDiff, l32_0, l32_1, l32_2, l32_3, l32_20, l32_200, et]
  · have et : totk 3 xs = (xs.map bulkN).sum := rfl
    have ed : depk 3 xs = mxL (xs.map dN) := rfl
    have hts : (xs.map bulkN).sum ≤ 600 * xs.length := hts
    by_cases c : xs.length ≤ 20 ∧ 1 + (xs.map bulkN).sum ≤ 600 ∧ 1 + mxL (xs.map dN) ≤ 4
    · obtain ⟨c1, c2, c3⟩ := c
      refine Or.inl ⟨mkP xs, by unfold mk; rw [if_neg (by decide), if_neg (by decide), if_pos ⟨c1, c2, c3⟩], ?_⟩
      obtain ⟨t2, t', q1, q2, q3, q4, q5, q6⟩ := hyes (by omega) (fun t2 => vp_updL (vp_updL (vp_updL (cel t2) u (Int32.toInt64 (Int32.ofNat xs.length))) (u + 1) (Int32.toInt64 (Int32.ofNat (totk 3 xs + 1)))) (u + 2) (Int32.toInt64 (Int32.ofNat (depk 3 xs + 1)))) (fun t2 ht2 => by
        obtain ⟨a1, a2, a3, a4, a5, a6, a7, a8, a9⟩ := ht2
        unfold cf_126_210 cf_126_239 cf_126_244 cf_126_272
        simp (disch := omega) only [ev_S, ev_C, ↓reduceIte, Nat.reduceEqDiff, Nat.reduceLeDiff, Nat.reduceAdd, Nat.reduceMul, Nat.reduceSub, reduceCtorEq, l32_0, l32_1, l32_2, l32_3, l32_4, l32_5, l32_6, l32_7, l32_8, l32_9, l32_10, a1, jB_jB]) (fun t2 y hy => by rw [updL_n (by omega), updL_n (by omega), updL_n (by omega)])
      refine ⟨t', tg (Int32.ofNat 3) (Int32.ofNat u), ?_, q5, ?_⟩
      · rw [← q4]
        unfold cf_126_106 cf_126_117 cf_126_119 cf_126_122 cf_126_135 cf_126_140 cf_126_150
        simp (disch := omega) only [ev_S, ↓reduceIte, Nat.reduceEqDiff, l32_0, l32_1, l32_2, l32_3, l32_4, l32_20, l32_600, et, ed]
      · have hd3 : ∀ x ∈ xs, dN x ≤ 3 := fun x hx => mxL_le.mp (show mxL (xs.map dN) ≤ 3 by omega) _ (List.mem_map.mpr ⟨x, hx, rfl⟩)
        have hb : ((xs.map (cs 3)).map (bulk 3)) = xs.map bulkN := map_cs (fun x hx => cs_bulk (hd3 x hx))
        have hdd : ((xs.map (cs 3)).map (dT 3)) = xs.map dN := map_cs (fun x hx => cs_d (hd3 x hx))
        rw [q6, cN_iff]
        refine ⟨u, rfl, by rw [List.length_map]; omega, ?_, ?_, ?_, fun i hi => ?_⟩
        · unfold fil
          rw [if_neg (by omega), updL_n (by omega), updL_n (by omega), updL_s, List.length_map]
        · unfold fil
          rw [if_neg (by omega), updL_n (by omega), updL_s, hb, et, Nat.add_comm]
        · unfold fil
          rw [if_neg (by omega), updL_s, hdd, ed, Nat.add_comm]
        · rw [List.length_map] at hi
          have hx := hr i hi
          have e9 : fil t2 (vp_updL (vp_updL (vp_updL (cel t2) u (Int32.toInt64 (Int32.ofNat xs.length))) (u + 1) (Int32.toInt64 (Int32.ofNat (totk 3 xs + 1)))) (u + 2) (Int32.toInt64 (Int32.ofNat (depk 3 xs + 1)))) 3 f u xs.length 0 (u + 3 + i) = prt t (f + i) := by
            unfold fil
            rw [if_pos (by omega), show f + (u + 3 + i - (u + 3)) = f + i by omega]
            show (kB t2 44).2 _ = _
            rw [q3]
          rw [e9, List.getElem_map]
          refine cs_c (hd3 _ (List.getElem_mem hi)) (hx.mono (fun y hy => ?_) (by omega))
          rw [← q6]
          exact q5.2.2.2.1 y hy
    · refine Or.inr ⟨by unfold mk; rw [if_neg (by decide), if_neg (by decide), if_neg c], ?_⟩
      obtain ⟨t', e1, e2⟩ := hno
      refine ⟨t', ?_, e2⟩
      rw [← e1]
      by_cases c1 : xs.length ≤ 20
      · by_cases c2 : 1 + (xs.map bulkN).sum ≤ 600
        · have c3 : 4 < 1 + mxL (xs.map dN) := by omega
          unfold cf_126_106 cf_126_117 cf_126_119 cf_126_122 cf_126_135 cf_126_140 cf_126_150
          simp (disch := omega) only [ev_S, ↓reduceIte, Nat.reduceEqDiff, l32_0, l32_1, l32_2, l32_3, l32_4, l32_20, l32_600, et, ed]
        · unfold cf_126_106 cf_126_117 cf_126_119 cf_126_122 cf_126_135 cf_126_140
          simp (disch := omega) only [ev_S, ↓reduceIte, Nat.reduceEqDiff, l32_0, l32_1, l32_2, l32_3, l32_4, l32_20, l32_600, et, ed]
      · unfold cf_126_106 cf_126_117 cf_126_119
        simp (disch := omega) only [ev_S, ↓reduceIte, Nat.reduceEqDiff, l32_0, l32_1, l32_2, l32_3, l32_4, l32_20, l32_600, et, ed]
end CBF
end
-- ### 72.pure.lean.txt
section
/-! ===== PURE: a THING's parts, and what is built of them again ===== -/
abbrev nZ (z : Int32) : Nod := ⟨0, .inl z⟩
def ptsV : Vw → List Nod
  | .inl _ => []
  | .inr (.inl r) => r.map nZ
  | .inr (.inr (.inl q)) => q.map nR
  | .inr (.inr (.inr l)) => l.2.map fun y => ⟨l.1, y⟩
abbrev pts (x : Nod) : List Nod := ptsV (vw x)
theorem pts_len {x : Nod} : (pts x).length = szN x := by
  show (ptsV (vw x)).length = szV (vw x)
  generalize vw x = v
  obtain z | r | q | l := v
  · rfl
  · exact List.length_map _
  · exact List.length_map _
  · exact List.length_map _
theorem cs_ci {g : Nat → Int64} {u m : Nat} {x : Nod} (h : dN x ≤ m) {v : Int64} : cN g u v x ↔ cN g u v ⟨m, cs m x⟩ := by
  refine (cs_ind (fun x y => bulkN x = bulkN y ∧ dN x = dN y ∧ ∀ v, cN g u v x ↔ cN g u v y) (fun x y k e => ⟨by rw [vw_bulk x, vw_bulk y, e], by rw [dN_0 k, dN_0 (x := y) (by rw [e]; exact k)], fun v => by rw [cN_iff, cN_iff, e]⟩) (fun n m l l' x y hl hi e e' => ?_) m x h).2.2 v
  have hb := map_eq (f := bulk n) (g := bulk m) hl (fun i a b => (hi i a b).1)
  have hd := map_eq (f := dT n) (g := dT m) hl (fun i a b => (hi i a b).2.1)
  refine ⟨?_, ?_, fun v => ?_⟩
  · rw [vw_bulk x, vw_bulk y, e, e']
    show 1 + (l.map (bulk n)).sum = 1 + (l'.map (bulk m)).sum
    rw [hb]
  · rw [dN_P e, dN_P e', hd]
  · rw [cN_iff, cN_iff, e, e']
    constructor
    · intro w
      obtain ⟨a, h1, h2, h3, h4, h5, h6⟩ := w
      exact ⟨a, h1, by omega, by rw [hl]; exact h3, by rw [← hb]; exact h4, by rw [← hd]; exact h5, fun i hi' => ((hi i (by omega) hi').2.2 _).mp (h6 i (by omega))⟩
    · intro w
      obtain ⟨a, h1, h2, h3, h4, h5, h6⟩ := w
      exact ⟨a, h1, by omega, by rw [← hl]; exact h3, by rw [hb]; exact h4, by rw [hd]; exact h5, fun i hi' => ((hi i hi' (by omega)).2.2 _).mpr (h6 i (by omega))⟩
theorem cN_vw {g : Nat → Int64} {u : Nat} {v : Int64} {x y : Nod} (h : vw x = vw y) : cN g u v x ↔ cN g u v y := by
  rw [cN_iff, cN_iff, h]
theorem map_iv (r : List Int32) : (r.map nZ).map ivN = r := by
  rw [List.map_map]
  exact List.map_id r
theorem map_rv (q : List (List Int32)) : (q.map nR).map rvN = q := by
  rw [List.map_map]
  exact List.map_id q
/-- a THING built of its own parts -/
theorem mk_pts {x : Nod} {k : Nat} (hw : wfN x) (hd : dN x ≤ 4) (hk : kdN x = Int32.ofNat k) (h3 : 1 ≤ k) (h4 : k ≤ 3) : mkOk k (pts x) ∧ ∃ y, mk k (pts x) = some y ∧ ∀ g u v, cN g u v y ↔ cN g u v x := by
  have hw := vw_wf x hw
  have hv : ∀ (y : Nod) g u v, vw y = vw x → (cN g u v y ↔ cN g u v x) := fun y g u v e => cN_vw e
  have hP := fun (n : Nat) (l : List (Th n)) (e : vw x = vP n l) => dN_P e
  have hC := fun g u v => cs_ci (g := g) (u := u) (v := v) hd
  have hk : kdV (vw x) = Int32.ofNat k := hk
  have hcs := fun (n : Nat) (l : List (Th n)) (e : vw x = vP n l) => vw_cs_k (m := 3) e
  show mkOk k (ptsV (vw x)) ∧ ∃ y, mk k (ptsV (vw x)) = some y ∧ _
  generalize vw x = V at *
  obtain z | r | q | ⟨n, l⟩ := V
  · have := ofNat_inj (a := 0) (by omega) (by omega) hk
    omega
  · have e : 1 = k := ofNat_inj (a := 1) (by omega) (by omega) hk
    subst e
    refine ⟨Or.inl ⟨rfl, fun y hy => ?_⟩, mkR (r.map nZ), ?_, fun g u v => hv _ g u v ?_⟩
    · obtain ⟨z, -, rfl⟩ := List.mem_map.mp hy
      rfl
    · unfold mk
      rw [if_pos rfl, if_pos (by show (r.map nZ).length ≤ 64; rw [List.length_map]; exact hw)]
      rfl
    · show vR ((r.map nZ).map ivN) = _
      rw [map_iv]
  · have e : 2 = k := ofNat_inj (a := 2) (by omega) (by omega) hk
    subst e
    refine ⟨Or.inr (Or.inl ⟨rfl, fun y hy => ?_⟩), mkT (q.map nR), ?_, fun g u v => hv _ g u v ?_⟩
    · obtain ⟨z, -, rfl⟩ := List.mem_map.mp hy
      rfl
    · unfold mk
      rw [if_neg (by decide), if_pos rfl, if_pos]
      · rfl
      · refine ⟨by show (q.map nR).length ≤ 20; rw [List.length_map]; exact hw.1, ?_⟩
        show ((q.map nR).map szN).sum ≤ 200
        rw [List.map_map]
        exact hw.2.1
    · show vT ((q.map nR).map rvN) = _
      rw [map_rv]
  · have e : 3 = k := ofNat_inj (a := 3) (by omega) (by omega) hk
    subst e
    have hd' := hP n l rfl
    have hb : ((l.map fun y => (⟨n, y⟩ : Nod)).map bulkN) = l.map (bulk n) := by
      rw [List.map_map]
      rfl
    have hdd : ((l.map fun y => (⟨n, y⟩ : Nod)).map dN) = l.map (dT n) := by
      rw [List.map_map]
      rfl
    refine ⟨Or.inr (Or.inr rfl), mkP (l.map fun y => ⟨n, y⟩), ?_, fun g u v => ?_⟩
    · unfold mk
      rw [if_neg (by decide), if_neg (by decide), if_pos]
      · rfl
      · refine ⟨by show (l.map fun y => (⟨n, y⟩ : Nod)).length ≤ 20; rw [List.length_map]; exact hw.1, ?_, ?_⟩
        · show 1 + ((l.map fun y => (⟨n, y⟩ : Nod)).map bulkN).sum ≤ 600
          rw [hb]
          exact hw.2.1
        · show 1 + mxL ((l.map fun y => (⟨n, y⟩ : Nod)).map dN) ≤ 4
          rw [hdd]
          omega
    · rw [hC g u v]
      refine cN_vw ?_
      rw [hcs n l rfl]
      show vP 3 ((l.map fun y => (⟨n, y⟩ : Nod)).map (cs 3)) = _
      rw [List.map_map]
      rfl
theorem cN.kd {g : Nat → Int64} {u : Nat} {v : Int64} {x : Nod} (h : cN g u v x) : ∃ a : Int32, v = tg (kdN x) a := by
  have h := cN_iff.mp h
  show ∃ a : Int32, v = tg (kdV (vw x)) a
  generalize vw x = V at h
  obtain z | r | q | ⟨n, l⟩ := V
  · exact ⟨z, h⟩
  · obtain ⟨a, h, -⟩ := h
    exact ⟨_, h⟩
  · obtain ⟨a, h, -⟩ := h
    exact ⟨_, h⟩
  · obtain ⟨a, h, -⟩ := h
    exact ⟨_, h⟩
end
-- ### 73.pure.lean.txt
section
/-! ===== PURE: the class reads a shelf into its heap ===== -/
/-- what reading from Shelves σ leaves -/
def rfr (σ : Nat) (t t' : cS) : Prop := hfr t (jI t' (3000000 + σ) 2 (kI t (3000000 + σ) 2))
section RDS
variable {N : Nat} {X : Nat → Option zz_C} {t t' t1 t2 : cS} {u w σ j p : Nat} {ξ : List Int32}
theorem rfr.rf : rfr σ t t := by
  refine ⟨fun k f r => ?_, rfl, rfl, fun _ _ _ _ => ⟨rfl, rfl, rfl⟩, rfl, rfl, Nat.le_refl _, Nat.le_refl _, Nat.le_refl _⟩
  show (if k = 3000000 + σ ∧ f = 2 then _ else _) = _
  split
  · rename_i c
    rw [c.1, c.2]
  · rfl
theorem rfr.of (h : hfr t t') : rfr σ t t' := by
  obtain ⟨a1, a2, a3, a4, a5, a6, a8, a9, a10⟩ := h
  refine ⟨fun k f r => ?_, a2, a3, a4, a5, a6, a8, a9, a10⟩
  show (if k = 3000000 + σ ∧ f = 2 then _ else _) = _
  split
  · rename_i c
    rw [c.1, c.2]
  · exact a1 k f r
theorem rfr.ix {x : Int32} : rfr σ t (jI t (3000000 + σ) 2 x) := by
  refine ⟨fun k f r => ?_, rfl, rfl, fun _ _ _ _ => ⟨rfl, rfl, rfl⟩, rfl, rfl, Nat.le_refl _, Nat.le_refl _, Nat.le_refl _⟩
  show (if k = 3000000 + σ ∧ f = 2 then _ else (if k = 3000000 + σ ∧ f = 2 then _ else _)) = _
  split
  · rename_i c
    rw [c.1, c.2]
  · rfl
theorem rfr.tr (h : rfr σ t t1) (g : rfr σ t1 t2) : rfr σ t t2 := by
  obtain ⟨a1, a2, a3, a4, a5, a6, a8, a9, a10⟩ := h
  obtain ⟨b1, b2, b3, b4, b5, b6, b8, b9, b10⟩ := g
  refine ⟨fun k f r => ?_, b2.trans a2, b3.trans a3, fun k r1 r2 r3 => ⟨(b4 k r1 r2 r3).1.trans (a4 k r1 r2 r3).1, (b4 k r1 r2 r3).2.1.trans (a4 k r1 r2 r3).2.1, (b4 k r1 r2 r3).2.2.trans (a4 k r1 r2 r3).2.2⟩, b5.trans a5, b6.trans a6, Nat.le_trans a8 b8, ?_, ?_⟩
  · show (if k = 3000000 + σ ∧ f = 2 then _ else _) = _
    have e1 := a1 k f r
    have e2 := b1 k f r
    rw [kI_jI] at e1 e2
    split
    · rename_i c
      rw [c.1, c.2]
    · rename_i c
      rw [if_neg c] at e1 e2
      exact e2.trans e1
  · have e1 : kN t1 + pot t ≤ kN t + pot t1 := a9
    have e2 : kN t2 + pot t1 ≤ kN t1 + pot t2 := b9
    show kN t2 + pot t ≤ kN t + pot t2
    omega
  · have e1 : kQ t1 + poq t ≤ kQ t + poq t1 := a10
    have e2 : kQ t2 + poq t1 ≤ kQ t1 + poq t2 := b10
    show kQ t2 + poq t ≤ kQ t + poq t2
    omega
theorem hfr.s0 (h : hfr t t') (h0 : cS0 t σ) : cS0 t' σ := by
  obtain ⟨a1, a2, a3, a4, a5, a6, a8, a9, a10⟩ := h
  obtain ⟨g1, g2, g3⟩ := h0
  refine ⟨by rw [a6]; exact g1, by rw [(a4 _ (by omega) (by omega) (by omega)).1]; exact g2, fun j hj => by rw [(a4 _ (by omega) (by omega) (by omega)).1]; exact g3 j hj⟩
theorem hfr.s1 (h : hfr t t') (h0 : cS1 t σ j ξ) : cS1 t' σ j ξ := by
  obtain ⟨a1, a2, a3, a4, a5, a6, a8, a9, a10⟩ := h
  unfold cS1 at h0 ⊢
  rw [(a4 _ (by omega) (by omega) (by omega)).1, (a4 (2000000 + 20 * σ + 1 + 1 + j) (by omega) (by omega) (by omega)).1]
  exact h0
/-- numbers ξ of shelf j, read up to p -/
def cRd (t : cS) (σ j : Nat) (ξ : List Int32) (p : Nat) : Prop := cS0 t σ ∧ cS1 t σ j ξ ∧ kI t (3000000 + σ) 2 = Int32.ofNat p ∧ ξ.length ≤ 1200 ∧ j < 8
theorem cRd.keep (h : cRd t σ j ξ p) (hf : hfr t t') : cRd t' σ j ξ p := by
  obtain ⟨h1, h2, h3, h4, h5⟩ := h
  exact ⟨hf.s0 h1, hf.s1 h2, by rw [hf.1 _ _ (by omega)]; exact h3, h4, h5⟩
theorem c_next {a : Int32} {rest : List Int32} (h : cRd t σ j ξ p) (e : ξ.drop p = a :: rest) : cf_219 N X σ (Int32.ofNat j) t = some (jI t (3000000 + σ) 2 (Int32.ofNat (p + 1)), .inl (some (.int a))) ∧ cRd (jI t (3000000 + σ) 2 (Int32.ofNat (p + 1))) σ j ξ (p + 1) ∧ ξ.drop (p + 1) = rest := by
  obtain ⟨⟨g1, g2, g3⟩, ⟨h1, h2, h3⟩, h4, h5, h6⟩ := h
  have hp : p < ξ.length := by
    by_cases c : p < ξ.length
    · exact c
    · rw [List.drop_eq_nil_of_le (by omega)] at e
      cases e
  rw [List.drop_eq_getElem_cons hp] at e
  obtain ⟨e1, e2⟩ := List.cons.inj e
  have h3 := h3 p hp
  rw [e1] at h3
  refine ⟨?_, ⟨⟨g1, g2, g3⟩, ⟨h1, h2, fun i hi => by rename_i hh; exact hh i hi⟩, ?_, h5, h6⟩, e2⟩
  · repeat ((first | unfold cf_219 | unfold cf_219_0 | unfold cf_219_13 | unfold cf_219_15); try simp (disch := omega) only [ev_S, ev_C, ↓reduceIte, Nat.reduceEqDiff, Nat.reduceLeDiff, Nat.reduceAdd, Nat.reduceMul, Nat.reduceSub, reduceCtorEq, l32_0, l32_1, l32_2, l32_3, l32_4, l32_8, l32_10, l32_20, g1, g2, h1, h4, h3])
  · show (if _ ∧ _ then _ else _) = _
    exact if_pos ⟨rfl, rfl⟩
theorem cHp_ix {k : Nat} {f : Nat} {x : Int32} (hk : ¬ k = 42) (h : cHp t u w) : cHp (jI t k f x) u w := by
  obtain ⟨h1, h2, h3⟩ := h
  refine ⟨?_, ?_, h3⟩
  · show (if _ ∧ _ then _ else _) = _
    rw [if_neg (by omega)]
    exact h1
  · show (if _ ∧ _ then _ else _) = _
    rw [if_neg (by omega)]
    exact h2
/-- what is asked of a call that reads a THING x, told by the numbers sr -/
def rdP (σ j : Nat) (ξ : List Int32) (call : cS → kO) (x : Nod) (sr : List Int32) (W : Nat) : Prop := ∀ (t : cS) (u w p : Nat) (rest : List Int32), cRd t σ j ξ p → cHp t u w → ξ.drop p = sr ++ rest → w ≤ W → u + 4 * bulkN x ≤ 162000 → ∃ t' v u', call t = some (t', .inl (some (.long v))) ∧ cN (cel t') u' v x ∧ cHp t' u' w ∧ rfr σ t t' ∧ cRd t' σ j ξ (p + sr.length) ∧ ξ.drop (p + sr.length) = rest ∧ u ≤ u' ∧ u' + 1 ≤ u + 4 * bulkN x ∧ (∀ y, y < u → cel t' y = cel t y) ∧ (∀ y, y < w → prt t' y = prt t y)
/-- the INTS of a ROW, one after the other -/
theorem c_rowL {r : List Int32} {f : Nat} (hr : r.length ≤ 64) (hf : f ≤ 60000) : ∀ (d i q : Nat) (t : cS) (p : Nat) (rest : List Int32), i + d = r.length → cRd t σ j ξ p → cHp t u (f + i) → ξ.drop p = r.drop i ++ rest → (∀ m (hm : m < r.length), m < i → prt t (f + m) = tg 0 r[m]) → ∃ t', cf_218_L2 N X (q + (d + 1)) 0 σ (Int32.ofNat j) (Int32.ofNat f) (Int32.ofNat r.length) (Int32.ofNat i) t = cf_218_41 N X (Int32.ofNat f) t' ∧ cRd t' σ j ξ (p + d) ∧ ξ.drop (p + d) = rest ∧ cHp t' u (f + r.length) ∧ (∀ m (hm : m < r.length), prt t' (f + m) = tg 0 r[m]) ∧ rfr σ t t' ∧ kB t' 43 = kB t 43 ∧ (∀ y, y < f → prt t' y = prt t y) := by
  intro d
  induction d with
  | zero =>
    intro i q t p rest hi h1 h2 h3 h4
    have hi : i = r.length := hi
    subst hi
    rw [List.drop_length] at h3
    refine ⟨t, ?_, h1, h3, h2, fun m hm => h4 m hm hm, rfr.rf, rfl, fun _ _ => rfl⟩
    show cf_218_15 N X (cf_218_L2 N X q) σ (Int32.ofNat j) (Int32.ofNat f) (Int32.ofNat r.length) (Int32.ofNat r.length) t = _
    unfold cf_218_15
    simp (disch := omega) only [ev_S, ev_C, ↓reduceIte, Nat.reduceEqDiff, Nat.reduceLeDiff, Nat.reduceAdd, Nat.reduceMul, Nat.reduceSub, reduceCtorEq, l32_0, l32_1, l32_2, l32_3, l32_4, l32_5, l32_6, l32_7, l32_8, l32_9, l32_10, h2]
  | succ d ih =>
    intro i q t p rest hi h1 h2 h3 h4
    have hi1 : i < r.length := by omega
    rw [List.drop_eq_getElem_cons hi1] at h3
    obtain ⟨n1, n2, n3⟩ := c_next (N := N) (X := X) h1 h3
    obtain ⟨t2, b1, b2, b3, b4, b5, b6⟩ := c_put1 (N := N) (X := X) (v := tg 0 r[i]) (cHp_ix (k := 3000000 + σ) (f := 2) (x := Int32.ofNat (p + 1)) (by omega) h2) (by omega)
    have g1 := h1.1.1
    have b1' : cf_123 N X (tg (Int32.ofNat 0) r[i]) (jI t (3000000 + σ) 2 (Int32.ofNat (p + 1))) = some (t2, .inl none) := b1
    obtain ⟨t', k1, k2, k3, k4, k5, k6, k7, k8⟩ := ih (i + 1) q t2 (p + 1) rest (by omega) (n2.keep b3) b2 n3 (fun m hm hmi => by
      by_cases c : m = i
      · subst c
        exact b5
      · rw [b6 _ (by omega)]
        exact h4 m hm (by omega))
    refine ⟨t', ?_, by rw [show p + (d + 1) = p + 1 + d by omega]; exact k2, by rw [show p + (d + 1) = p + 1 + d by omega]; exact k3, k4, k5, rfr.tr (rfr.tr rfr.ix (rfr.of b3)) k6, k7.trans b4, fun y hy => (k8 y hy).trans (b6 y (by omega))⟩
    rw [← k1]
    show cf_218_15 N X (cf_218_L2 N X (q + (d + 1))) σ (Int32.ofNat j) (Int32.ofNat f) (Int32.ofNat r.length) (Int32.ofNat i) t = _
    repeat ((first | unfold cf_218 | unfold cf_218_0 | unfold cf_218_4 | unfold cf_218_10 | unfold cf_218_15 | unfold cf_218_22 | unfold cf_218_29 | unfold cf_218_32 | unfold cf_218_35 | unfold cf_218_41 | unfold cf_218_47); try simp (disch := omega) only [ev_S, ev_C, ↓reduceIte, Nat.reduceEqDiff, Nat.reduceLeDiff, Nat.reduceAdd, Nat.reduceMul, Nat.reduceSub, reduceCtorEq, l32_0, l32_1, l32_2, l32_3, l32_4, l32_7, g1, n1, c_thing, b1'])
theorem c_readRow {r : List Int32} (hN : 170000 ≤ N) (hr : r.length ≤ 64) : rdP σ j ξ (cf_218 N X σ (Int32.ofNat j)) (nR r) (serRow r) 60000 := by
  intro t u w p rest h1 h2 h3 hw hu
  have hu : u + 4 * (1 + r.length) ≤ 162000 := hu
  have g0 := c_gathered (N := N) (X := X) h2
  have g1 := h1.1.1
  obtain ⟨n1, n2, n3⟩ := c_next (N := N) (X := X) h1 h3
  obtain ⟨t1, a1, a2, a3, a4, a5, a6, a7, a8⟩ := c_rowL (N := N) (X := X) (r := r) (f := w) (σ := σ) (j := j) (ξ := ξ) (u := u) hr hw r.length 0 (N - (r.length + 1)) _ (p + 1) rest (Nat.zero_add _) n2 (cHp_ix (k := 3000000 + σ) (f := 2) (x := Int32.ofNat (p + 1)) (by omega) h2) n3 (fun m _ hm => by omega)
  rw [show N - (r.length + 1) + (r.length + 1) = N by omega] at a1
  have e1 : cf_218 N X σ (Int32.ofNat j) t = cf_218_41 N X (Int32.ofNat w) t1 := by
    rw [← a1]
    repeat ((first | unfold cf_218 | unfold cf_218_0 | unfold cf_218_4 | unfold cf_218_10 | unfold cf_218_15 | unfold cf_218_22 | unfold cf_218_29 | unfold cf_218_32 | unfold cf_218_35 | unfold cf_218_41 | unfold cf_218_47); try simp (disch := omega) only [ev_S, ev_C, ↓reduceIte, Nat.reduceEqDiff, Nat.reduceLeDiff, Nat.reduceAdd, Nat.reduceMul, Nat.reduceSub, reduceCtorEq, l32_0, l32_1, l32_2, l32_3, l32_4, l32_7, g0, g1, n1])
  have hl : (r.map nZ).length = r.length := List.length_map _
  have hb := c_build (N := N) (X := X) (k := 1) (xs := r.map nZ) (t := t1) (u := u) (f := w) hN (Or.inl ⟨rfl, fun x hx => by
    obtain ⟨z, -, rfl⟩ := List.mem_map.mp hx
    rfl⟩) (by rw [hl]; exact a4) (fun i hi => by
      rw [hl] at hi
      rw [a5 i hi, List.getElem_map]
      rfl) (fun x hx => by
    obtain ⟨z, -, rfl⟩ := List.mem_map.mp hx
    exact trivial) (fun x hx => by
    obtain ⟨z, -, rfl⟩ := List.mem_map.mp hx
    exact Nat.zero_le _) (by omega) (by omega) (by omega)
  rcases hb with ⟨y, m1, t', v, c1, c2, c3⟩ | ⟨m1, -⟩
  · obtain ⟨d1, d2, d3, d4, d5⟩ := c2
    have em : mk 1 (r.map nZ) = some (mkR (r.map nZ)) := by
      unfold mk
      rw [if_pos rfl, if_pos (by rw [hl]; exact hr)]
    rw [em] at m1
    cases m1
    refine ⟨t', v, u + 1 + (r.map nZ).length, ?_, ?_, d1, rfr.tr (rfr.tr rfr.ix a6) (rfr.of d2), ?_, ?_, by omega, ?_, fun y hy => (d4 y hy).trans ?_, fun y hy => (d5 y hy).trans (a8 y hy)⟩
    · rw [e1]
      repeat ((first | unfold cf_218_41 | unfold cf_218_47); try simp (disch := omega) only [ev_S, ev_C, ↓reduceIte, Nat.reduceEqDiff, Nat.reduceLeDiff, Nat.reduceAdd, Nat.reduceMul, Nat.reduceSub, reduceCtorEq, l32_0, l32_1, l32_2, l32_3, l32_4, c1])
    · refine (cN_vw ?_).mp c3
      show vR ((r.map nZ).map ivN) = vR r
      rw [map_iv]
    · rw [show p + (serRow r).length = p + 1 + r.length by show p + (r.length + 1) = _; omega]
      exact a2.keep d2
    · rw [show p + (serRow r).length = p + 1 + r.length by show p + (r.length + 1) = _; omega]
      exact a3
    · show u + 1 + (r.map nZ).length + 1 ≤ u + 4 * (1 + r.length)
      omega
    · show (kB t1 43).2 y = _
      rw [a7]
      rfl
  · unfold mk at m1
    rw [if_pos rfl, if_pos (by rw [hl]; exact hr)] at m1
    cases m1
end RDS
end
-- ### 74.pure.lean.txt
section
/-! ===== PURE: the class reads a THING ===== -/
section RDT
variable {N : Nat} {X : Nat → Option zz_C} {σ j : Nat} {ξ : List Int32}
/-- parts, one after the other: call reads each of them -/
theorem c_thingL {rk : Nat → List Value → cS → kO} {call : cS → kO} {k dp f W : Nat} {xs : List Nod} {sr : Nod → List Int32} (hk : k = 2 ∧ call = cf_218 N X σ (Int32.ofNat j) ∨ k = 3 ∧ call = rk 217 [.ref σ, .int (Int32.ofNat j), .int (Int32.ofNat (dp + 1))]) (hl : xs.length ≤ 20) (hf : f + 20 ≤ W) (hW : W ≤ 60000) (hc : ∀ x ∈ xs, rdP σ j ξ call x (sr x) W) : ∀ (d i q : Nat) (t : cS) (u p : Nat) (rest : List Int32), i + d = xs.length → cRd t σ j ξ p → cHp t u (f + i) → ξ.drop p = (xs.drop i).flatMap sr ++ rest → u + 4 * ((xs.drop i).map bulkN).sum ≤ 162000 → reps (cel t) u (prt t) f (xs.take i) → ∃ t' u', cf_217_L5 N X rk (q + (d + 1)) 0 σ (Int32.ofNat j) (Int32.ofNat dp) (Int32.ofNat k) (Int32.ofNat f) (Int32.ofNat xs.length) (Int32.ofNat i) t = cf_217_97 N X rk (Int32.ofNat k) (Int32.ofNat f) t' ∧ cRd t' σ j ξ (p + ((xs.drop i).flatMap sr).length) ∧ ξ.drop (p + ((xs.drop i).flatMap sr).length) = rest ∧ cHp t' u' (f + xs.length) ∧ reps (cel t') u' (prt t') f xs ∧ rfr σ t t' ∧ u ≤ u' ∧ u' + d ≤ u + 4 * ((xs.drop i).map bulkN).sum ∧ (∀ y, y < u → cel t' y = cel t y) ∧ (∀ y, y < f → prt t' y = prt t y) := by
  intro d
  induction d with
  | zero =>
    intro i q t u p rest hi h1 h2 h3 h4 h5
    have hi : i = xs.length := hi
    subst hi
    rw [List.drop_length] at h3 ⊢
    rw [List.take_length] at h5
    refine ⟨t, u, ?_, h1, h3, h2, h5, rfr.rf, Nat.le_refl _, Nat.le_add_right _ _, fun _ _ => rfl, fun _ _ => rfl⟩
    show cf_217_56 N X rk (cf_217_L5 N X rk q) σ (Int32.ofNat j) (Int32.ofNat dp) (Int32.ofNat k) (Int32.ofNat f) (Int32.ofNat xs.length) (Int32.ofNat xs.length) t = _
    unfold cf_217_56
    simp (disch := omega) only [ev_S, ev_C, ↓reduceIte, Nat.reduceEqDiff, Nat.reduceLeDiff, Nat.reduceAdd, Nat.reduceMul, Nat.reduceSub, reduceCtorEq, l32_0, l32_1, l32_2, l32_3, l32_4, l32_5, l32_6, l32_7, l32_8, l32_9, l32_10, h2]
  | succ d ih =>
    intro i q t u p rest hi h1 h2 h3 h4 h5
    have hi1 : i < xs.length := by omega
    have hm := List.getElem_mem hi1
    rw [List.drop_eq_getElem_cons hi1] at h3 h4 ⊢
    rw [List.flatMap_cons, List.append_assoc] at h3
    rw [List.map_cons, List.sum_cons] at h4 ⊢
    obtain ⟨t1, v, u1, a1, a2, a3, a4, a5, a6, a7, a8, a9, a10⟩ := hc _ hm t u (f + i) p _ h1 h2 h3 (by omega) (by omega)
    obtain ⟨t2, b1, b2, b3, b4, b5, b6⟩ := c_put1 (N := N) (X := X) (v := v) a3 (by omega)
    have e43 : cel t2 = cel t1 := congrArg Prod.snd b4
    have g1 := h1.1.1
    obtain ⟨t', u', k1, k2, k3, k4, k5, k6, k7, k8, k9, k10⟩ := ih (i + 1) q t2 u1 (p + (sr xs[i]).length) rest (by omega) (a5.keep b3) b2 a6 (by omega) (fun m hm => by
      have hm' : m < i + 1 := by
        rw [List.length_take] at hm
        omega
      rw [List.getElem_take, e43]
      by_cases c : m = i
      · subst c
        rw [b5]
        exact a2
      · rw [b6 _ (by omega), a10 _ (by omega)]
        have := h5 m (by rw [List.length_take]; omega)
        rw [List.getElem_take] at this
        exact this.mono a9 a7)
    refine ⟨t', u', ?_, ?_, ?_, k4, k5, rfr.tr (rfr.tr a4 (rfr.of b3)) k6, by omega, by omega, fun y hy => (k9 y (by omega)).trans ((congrFun e43 y).trans (a9 y hy)), fun y hy => (k10 y hy).trans ((b6 y (by omega)).trans (a10 y (by omega)))⟩
    · rw [← k1]
      show cf_217_56 N X rk (cf_217_L5 N X rk (q + (d + 1))) σ (Int32.ofNat j) (Int32.ofNat dp) (Int32.ofNat k) (Int32.ofNat f) (Int32.ofNat xs.length) (Int32.ofNat i) t = _
      rcases hk with ⟨rfl, rfl⟩ | ⟨rfl, rfl⟩
      · repeat ((first | unfold cf_217 | unfold cf_217_0 | unfold cf_217_5 | unfold cf_217_12 | unfold cf_217_17 | unfold cf_217_23 | unfold cf_217_26 | unfold cf_217_27 | unfold cf_217_33 | unfold cf_217_39 | unfold cf_217_40 | unfold cf_217_44 | unfold cf_217_51 | unfold cf_217_56 | unfold cf_217_63 | unfold cf_217_70 | unfold cf_217_76 | unfold cf_217_79 | unfold cf_217_88 | unfold cf_217_91 | unfold cf_217_97 | unfold cf_217_105); try simp (disch := omega) only [ev_S, ev_C, ↓reduceIte, Nat.reduceEqDiff, Nat.reduceLeDiff, Nat.reduceAdd, Nat.reduceMul, Nat.reduceSub, reduceCtorEq, l32_0, l32_1, l32_2, l32_3, l32_4, l32_7, g1, a1, b1])
      · repeat ((first | unfold cf_217 | unfold cf_217_0 | unfold cf_217_5 | unfold cf_217_12 | unfold cf_217_17 | unfold cf_217_23 | unfold cf_217_26 | unfold cf_217_27 | unfold cf_217_33 | unfold cf_217_39 | unfold cf_217_40 | unfold cf_217_44 | unfold cf_217_51 | unfold cf_217_56 | unfold cf_217_63 | unfold cf_217_70 | unfold cf_217_76 | unfold cf_217_79 | unfold cf_217_88 | unfold cf_217_91 | unfold cf_217_97 | unfold cf_217_105); try simp (disch := omega) only [ev_S, ev_C, ↓reduceIte, Nat.reduceEqDiff, Nat.reduceLeDiff, Nat.reduceAdd, Nat.reduceMul, Nat.reduceSub, reduceCtorEq, l32_0, l32_1, l32_2, l32_3, l32_4, l32_7, g1, a1, b1])
    · rw [List.flatMap_cons, List.length_append, ← Nat.add_assoc]
      exact k2
    · rw [List.flatMap_cons, List.length_append, ← Nat.add_assoc]
      exact k3
theorem sum_nod {n : Nat} {l : List (Th n)} : ((l.map fun y => (⟨n, y⟩ : Nod)).map bulkN).sum = (l.map (bulk n)).sum := by
  rw [List.map_map]
  rfl
theorem flat_nod {n : Nat} {l : List (Th n)} : (l.map fun y => (⟨n, y⟩ : Nod)).flatMap serN = l.flatMap (ser n) := by
  rw [List.flatMap_def, List.flatMap_def, List.map_map]
  rfl
theorem nod_len {n : Nat} {l : List (Th n)} : (l.map fun y => (⟨n, y⟩ : Nod)).length = l.length := List.length_map _
/-- one reading, by what the THING is -/
theorem c_readStep {rk : Nat → List Value → cS → kO} {n dp W : Nat} {x : Nod} (hN : 170000 ≤ N) (hw : wfN x) (hd : dN x ≤ 4) (hdp : dp ≤ 4) (hW : W + 20 ≤ 60000) (hc : ∀ m l, vw x = vP m l → dp < 4 → ∀ y ∈ l, rdP σ j ξ (rk 217 [.ref σ, .int (Int32.ofNat j), .int (Int32.ofNat (dp + 1))]) ⟨m, y⟩ (ser m y) (W + 20)) (hdp2 : kdN x = 3 → dp < 4) : rdP σ j ξ (cf_217 N X rk σ (Int32.ofNat j) (Int32.ofNat dp)) x (serN x) W := by
  intro t u w p rest h1 h2 h3 hwW hu
  have g1 := h1.1.1
  have hmk := fun k h1 h2 h3 => mk_pts (x := x) (k := k) hw hd h1 h2 h3
  have hwv := vw_wf x hw
  have hds := hd
  have hbk := vw_bulk x
  have hcn := fun (y : Nod) g u v (e : vw y = vw x) => cN_vw (g := g) (u := u) (v := v) e
  have hser : serN x = serV (vw x) := vw_ser x
  have hk2 : kdV (vw x) = 3 → dp < 4 := hdp2
  have hcd := fun (m : Nat) (l : List (Th m)) (e : vw x = vP m l) => dN_P e
  have hmk : ∀ k : Nat, kdV (vw x) = Int32.ofNat k → 1 ≤ k → k ≤ 3 → mkOk k (ptsV (vw x)) ∧ ∃ y, mk k (ptsV (vw x)) = some y ∧ ∀ g u v, cN g u v y ↔ cN g u v x := hmk
  rw [hser] at h3 ⊢
  generalize vw x = V at *
  obtain z | r | q | ⟨n, l⟩ := V
  · have h3 : ξ.drop p = 0 :: z :: rest := h3
    obtain ⟨n1, n2, n3⟩ := c_next (N := N) (X := X) h1 h3
    obtain ⟨m1, m2, m3⟩ := c_next (N := N) (X := X) n2 n3
    have g2 := n2.1.1
    have hbk : bulkN x = 1 := hbk
    refine ⟨_, tg 0 z, u, ?_, ?_, cHp_ix (by omega) (cHp_ix (by omega) h2), rfr.tr rfr.ix rfr.ix, m2, m3, Nat.le_refl _, by omega, fun _ _ => rfl, fun _ _ => rfl⟩
    · repeat ((first | unfold cf_217 | unfold cf_217_0 | unfold cf_217_5 | unfold cf_217_12 | unfold cf_217_17 | unfold cf_217_23 | unfold cf_217_26 | unfold cf_217_27 | unfold cf_217_33 | unfold cf_217_39 | unfold cf_217_40 | unfold cf_217_44 | unfold cf_217_51 | unfold cf_217_56 | unfold cf_217_63 | unfold cf_217_70 | unfold cf_217_76 | unfold cf_217_79 | unfold cf_217_88 | unfold cf_217_91 | unfold cf_217_97 | unfold cf_217_105); try simp (disch := omega) only [ev_S, ev_C, ↓reduceIte, Nat.reduceEqDiff, Nat.reduceLeDiff, Nat.reduceAdd, Nat.reduceMul, Nat.reduceSub, reduceCtorEq, l32_0, l32_1, l32_2, l32_3, l32_4, l32_7, g1, n1, m1, g2, c_thing])
    · exact (hcn (nZ z) _ _ _ rfl).mp rfl
  · have h3 : ξ.drop p = 1 :: (serRow r ++ rest) := h3
    have hr : r.length ≤ 64 := hwv
    have hbk : bulkN x = 1 + r.length := hbk
    obtain ⟨n1, n2, n3⟩ := c_next (N := N) (X := X) h1 h3
    have g2 := n2.1.1
    obtain ⟨t', v, u', a1, a2, a3, a4, a5, a6, a7, a8, a9, a10⟩ := c_readRow (N := N) (X := X) hN hr _ u w (p + 1) rest n2 (cHp_ix (by omega) h2) n3 (by omega) (by show u + 4 * (1 + r.length) ≤ _; omega)
    have a8 : u' + 1 ≤ u + 4 * (1 + r.length) := a8
    have el : p + (serV (vR r)).length = p + 1 + (serRow r).length := by
      show p + (r.length + 1 + 1) = p + 1 + (r.length + 1)
      omega
    refine ⟨t', v, u', ?_, (hcn (nR r) _ _ _ rfl).mp a2, a3, rfr.tr rfr.ix a4, by rw [el]; exact a5, by rw [el]; exact a6, a7, by omega, a9, a10⟩
    repeat ((first | unfold cf_217 | unfold cf_217_0 | unfold cf_217_5 | unfold cf_217_12 | unfold cf_217_17 | unfold cf_217_23 | unfold cf_217_26 | unfold cf_217_27 | unfold cf_217_33 | unfold cf_217_39 | unfold cf_217_40 | unfold cf_217_44 | unfold cf_217_51 | unfold cf_217_56 | unfold cf_217_63 | unfold cf_217_70 | unfold cf_217_76 | unfold cf_217_79 | unfold cf_217_88 | unfold cf_217_91 | unfold cf_217_97 | unfold cf_217_105); try simp (disch := omega) only [ev_S, ev_C, ↓reduceIte, Nat.reduceEqDiff, Nat.reduceLeDiff, Nat.reduceAdd, Nat.reduceMul, Nat.reduceSub, reduceCtorEq, l32_0, l32_1, l32_2, l32_3, l32_4, l32_7, g1, n1, a1, g2])
  · have h3 : ξ.drop p = 2 :: Int32.ofNat q.length :: (q.flatMap serRow ++ rest) := h3
    have hbk : bulkN x = 1 + (q.map fun r => 1 + r.length).sum := hbk
    obtain ⟨w1, w2, w3⟩ := (show q.length ≤ 20 ∧ (q.map List.length).sum ≤ 200 ∧ ∀ r ∈ q, r.length ≤ 64 from hwv)
    obtain ⟨hok, y0, em, ey⟩ := hmk 2 rfl (by omega) (by omega)
    have hok : mkOk 2 (q.map nR) := hok
    have em : mk 2 (q.map nR) = some y0 := em
    obtain ⟨n1, n2, n3⟩ := c_next (N := N) (X := X) h1 h3
    obtain ⟨m1, m2, m3⟩ := c_next (N := N) (X := X) n2 n3
    have g2 := n2.1.1
    have g3 := m2.1.1
    have c2 := c_gathered (N := N) (X := X) (cHp_ix (k := 3000000 + σ) (f := 2) (x := Int32.ofNat (p + 1)) (by omega) h2)
    have eb : ((q.map nR).map bulkN).sum = (q.map fun r => 1 + r.length).sum := by
      rw [List.map_map]
      rfl
    have ef : (q.map nR).flatMap (fun x => serRow (rvN x)) = q.flatMap serRow := by
      rw [List.flatMap_def, List.flatMap_def, List.map_map]
      rfl
    have elq : (q.map nR).length = q.length := List.length_map _
    obtain ⟨t1, u1, a1, a2, a3, a4, a5, a6, a7, a8, a9, a10⟩ := c_thingL (N := N) (X := X) (σ := σ) (j := j) (ξ := ξ) (rk := rk) (k := 2) (dp := dp) (f := w) (W := W + 20) (xs := q.map nR) (sr := fun x => serRow (rvN x)) (Or.inl ⟨rfl, rfl⟩) (by omega) (by omega) hW (fun x hx => by
      obtain ⟨r, hr, rfl⟩ := List.mem_map.mp hx
      intro t u w p rest b1 b2 b3 b4 b5
      exact c_readRow hN (w3 r hr) t u w p rest b1 b2 b3 (by omega) b5) (q.map nR).length 0 (N - ((q.map nR).length + 1)) _ u (p + 1 + 1) rest (Nat.zero_add _) m2 (cHp_ix (by omega) (cHp_ix (by omega) h2)) (by rw [List.drop_zero, ef]; exact m3) (by rw [List.drop_zero, eb]; omega) (fun m hm => by rw [List.take_zero] at hm; exact absurd hm (Nat.not_lt_zero _))
    rw [show N - ((q.map nR).length + 1) + ((q.map nR).length + 1) = N by omega, elq] at a1
    rw [List.drop_zero, ef] at a2 a3
    rw [List.drop_zero, eb] at a8
    rcases c_build (N := N) (X := X) (k := 2) (xs := q.map nR) (t := t1) (u := u1) (f := w) hN hok a4 a5 (fun x hx => by
      obtain ⟨r, hr, rfl⟩ := List.mem_map.mp hx
      exact w3 r hr) (fun x hx => by
      obtain ⟨r, hr, rfl⟩ := List.mem_map.mp hx
      exact Nat.zero_le _) (by omega) (by omega) (by omega) with ⟨y, m1', t', v, c1, ⟨d1, d2, d3, d4, d5⟩, c3⟩ | ⟨m1', -⟩
    · rw [em] at m1'
      cases m1'
      have el : p + (serV (vT q)).length = p + 1 + 1 + (q.flatMap serRow).length := by
        show p + ((q.flatMap serRow).length + 1 + 1) = _
        omega
      refine ⟨t', v, u1 + 2 + (q.map nR).length, ?_, (ey _ _ _).mp c3, d1, rfr.tr (rfr.tr (rfr.tr rfr.ix rfr.ix) a6) (rfr.of d2), by rw [el]; exact a2.keep d2, by rw [el]; exact a3, by omega, by omega, fun y hy => (d4 y (by omega)).trans (a9 y hy), fun y hy => (d5 y hy).trans (a10 y hy)⟩
      repeat ((first | unfold cf_217 | unfold cf_217_0 | unfold cf_217_5 | unfold cf_217_12 | unfold cf_217_17 | unfold cf_217_23 | unfold cf_217_26 | unfold cf_217_27 | unfold cf_217_33 | unfold cf_217_39 | unfold cf_217_40 | unfold cf_217_44 | unfold cf_217_51 | unfold cf_217_56 | unfold cf_217_63 | unfold cf_217_70 | unfold cf_217_76 | unfold cf_217_79 | unfold cf_217_88 | unfold cf_217_91 | unfold cf_217_97 | unfold cf_217_105); try simp (disch := omega) only [ev_S, ev_C, ↓reduceIte, Nat.reduceEqDiff, Nat.reduceLeDiff, Nat.reduceAdd, Nat.reduceMul, Nat.reduceSub, reduceCtorEq, l32_0, l32_1, l32_2, l32_3, l32_4, l32_7, g1, n1, c2, g2, m1, a1, c1])
    · rw [em] at m1'
      cases m1'
  · have h3 : ξ.drop p = 3 :: Int32.ofNat l.length :: (l.flatMap (ser n) ++ rest) := h3
    have hbk : bulkN x = 1 + (l.map (bulk n)).sum := hbk
    obtain ⟨w1, w2, w3⟩ := (show l.length ≤ 20 ∧ 1 + (l.map (bulk n)).sum ≤ 600 ∧ ∀ y ∈ l, wfT n y from hwv)
    obtain ⟨hok, y0, em, ey⟩ := hmk 3 rfl (by omega) (by omega)
    have em : mk 3 (l.map fun y => (⟨n, y⟩ : Nod)) = some y0 := em
    have hdp := hk2 rfl
    have hdl := hcd n l rfl
    obtain ⟨n1, n2, n3⟩ := c_next (N := N) (X := X) h1 h3
    obtain ⟨m1, m2, m3⟩ := c_next (N := N) (X := X) n2 n3
    have g2 := n2.1.1
    have g3 := m2.1.1
    have c2 := c_gathered (N := N) (X := X) (cHp_ix (k := 3000000 + σ) (f := 2) (x := Int32.ofNat (p + 1)) (by omega) h2)
    have elq := nod_len (l := l)
    obtain ⟨t1, u1, a1, a2, a3, a4, a5, a6, a7, a8, a9, a10⟩ := c_thingL (N := N) (X := X) (σ := σ) (j := j) (ξ := ξ) (rk := rk) (k := 3) (dp := dp) (f := w) (W := W + 20) (xs := l.map fun y => (⟨n, y⟩ : Nod)) (sr := serN) (Or.inr ⟨rfl, rfl⟩) (by omega) (by omega) hW (fun x hx => by
      obtain ⟨r, hr, rfl⟩ := List.mem_map.mp hx
      exact hc n l rfl hdp r hr) (l.map fun y => (⟨n, y⟩ : Nod)).length 0 (N - ((l.map fun y => (⟨n, y⟩ : Nod)).length + 1)) _ u (p + 1 + 1) rest (Nat.zero_add _) m2 (cHp_ix (by omega) (cHp_ix (by omega) h2)) (by rw [List.drop_zero, flat_nod]; exact m3) (by rw [List.drop_zero, sum_nod]; omega) (fun m hm => by rw [List.take_zero] at hm; exact absurd hm (Nat.not_lt_zero _))
    rw [show N - ((l.map fun y => (⟨n, y⟩ : Nod)).length + 1) + ((l.map fun y => (⟨n, y⟩ : Nod)).length + 1) = N by omega, elq] at a1
    rw [List.drop_zero, flat_nod] at a2 a3
    rw [List.drop_zero, sum_nod] at a8
    rcases c_build (N := N) (X := X) (k := 3) (xs := l.map fun y => (⟨n, y⟩ : Nod)) (t := t1) (u := u1) (f := w) hN hok a4 a5 (fun x hx => by
      obtain ⟨r, hr, rfl⟩ := List.mem_map.mp hx
      exact w3 r hr) (fun x hx => by
      obtain ⟨r, hr, rfl⟩ := List.mem_map.mp hx
      have : mxL (l.map (dT n)) ≤ 4 := by omega
      exact mxL_le.mp this _ (List.mem_map.mpr ⟨r, hr, rfl⟩)) (by omega) (by omega) (by omega) with ⟨y, m1', t', v, c1, ⟨d1, d2, d3, d4, d5⟩, c3⟩ | ⟨m1', -⟩
    · rw [em] at m1'
      cases m1'
      have el : p + (serV (vP n l)).length = p + 1 + 1 + (l.flatMap (ser n)).length := by
        show p + ((l.flatMap (ser n)).length + 1 + 1) = _
        omega
      refine ⟨t', v, u1 + 3 + (l.map fun y => (⟨n, y⟩ : Nod)).length, ?_, (ey _ _ _).mp c3, d1, rfr.tr (rfr.tr (rfr.tr rfr.ix rfr.ix) a6) (rfr.of d2), by rw [el]; exact a2.keep d2, by rw [el]; exact a3, by omega, by omega, fun y hy => (d4 y (by omega)).trans (a9 y hy), fun y hy => (d5 y hy).trans (a10 y hy)⟩
      repeat ((first | unfold cf_217 | unfold cf_217_0 | unfold cf_217_5 | unfold cf_217_12 | unfold cf_217_17 | unfold cf_217_23 | unfold cf_217_26 | unfold cf_217_27 | unfold cf_217_33 | unfold cf_217_39 | unfold cf_217_40 | unfold cf_217_44 | unfold cf_217_51 | unfold cf_217_56 | unfold cf_217_63 | unfold cf_217_70 | unfold cf_217_76 | unfold cf_217_79 | unfold cf_217_88 | unfold cf_217_91 | unfold cf_217_97 | unfold cf_217_105); try simp (disch := omega) only [ev_S, ev_C, ↓reduceIte, Nat.reduceEqDiff, Nat.reduceLeDiff, Nat.reduceAdd, Nat.reduceMul, Nat.reduceSub, reduceCtorEq, l32_0, l32_1, l32_2, l32_3, l32_4, l32_7, g1, n1, c2, g2, m1, a1, c1])
    · rw [em] at m1'
      cases m1'
theorem c_readThing (hN : 170000 ≤ N) : ∀ (n m dp : Nat) (x : Th n), wfT n x → dp + n ≤ 4 → rdP σ j ξ (cf_S4 N X (n + 1 + m) 217 [.ref σ, .int (Int32.ofNat j), .int (Int32.ofNat dp)]) ⟨n, x⟩ (ser n x) (50000 - 100 * n) := by
  intro n
  induction n with
  | zero =>
    intro m dp x hw hd
    have e : 0 + 1 + m = (0 + m) + 1 := by omega
    rw [e]
    have key : rdP σ j ξ (cf_217 N X (cf_S4 N X (0 + m)) σ (Int32.ofNat j) (Int32.ofNat dp)) ⟨0, x⟩ (ser 0 x) (50000 - 100 * 0) := by
      refine c_readStep (n := 0) hN hw (Nat.zero_le _) (by omega) (by omega) (fun m' l hv hdp y hy => ?_) (fun hk => ?_)
      · obtain z | r | q := x <;> cases hv
      · obtain z | r | q := x
        · exact absurd hk (show ¬ (0 : Int32) = 3 by decide)
        · exact absurd hk (show ¬ (1 : Int32) = 3 by decide)
        · exact absurd hk (show ¬ (2 : Int32) = 3 by decide)
    exact key
  | succ n ih =>
    intro m dp x hw hd
    have e : n + 1 + 1 + m = (n + 1 + m) + 1 := by omega
    rw [e]
    have key : rdP σ j ξ (cf_217 N X (cf_S4 N X (n + 1 + m)) σ (Int32.ofNat j) (Int32.ofNat dp)) ⟨n + 1, x⟩ (ser (n + 1) x) (50000 - 100 * (n + 1)) := by
      refine c_readStep (n := n + 1) hN hw (Nat.le_trans (dT_le (n + 1) x) (by omega)) (by omega) (by omega) (fun m' l hv hdp y hy => ?_) (fun hk => by omega)
      have hm : n = m' := by
        obtain p | l' := x
        · obtain z | r | q := p <;> cases hv
        · cases hv
          rfl
      subst hm
      obtain p | l' := x
      · obtain z | r | q := p <;> cases hv
      · cases hv
        have := ih m (dp + 1) y (hw.2.2 y hy) (by omega)
        intro t u w p rest b1 b2 b3 b4 b5
        exact this t u w p rest b1 b2 b3 (by omega) b5
    exact key
end RDT
end
-- ### 75.pure.lean.txt
section
/-! ===== PURE: size and cell ===== -/
/-- the heap's arrays, whatever stands in them -/
def iH (t : cS) : Prop := 1 ≤ (kB t 44).1 ∧ 1 ≤ (kB t 43).1 ∧ (kB t 43).1 < 350000 ∧ (kB t 44).1 < 130000 ∧ rmK t
theorem cHp.iH {t : cS} {u w : Nat} (h : cHp t u w) : iH t := ⟨h.2.2.2.2.1, h.2.2.2.2.2.1, h.2.2.2.2.2.2.1, h.2.2.2.2.2.2.2.1, h.2.2.2.2.2.2.2.2⟩
section SCE
variable {N : Nat} {X : Nat → Option zz_C} {S : Nat → Option (Th 4)} {σ σ0 k : Nat} {μ : Nat → Nat} {t t' : cS} {s : mS}
theorem rfr.s0 (h : rfr σ t t') {σ' : Nat} (h0 : cS0 t σ') : cS0 t' σ' := hfr.s0 (t' := jI t' (3000000 + σ) 2 (kI t (3000000 + σ) 2)) h h0
theorem rfr.s1 (h : rfr σ t t') {σ' j : Nat} {ξ : List Int32} (h0 : cS1 t σ' j ξ) : cS1 t' σ' j ξ := hfr.s1 (t' := jI t' (3000000 + σ) 2 (kI t (3000000 + σ) 2)) h h0
theorem rfr.kI (h : rfr σ t t') {a b : Nat} (h1 : ¬ (a = 3000000 + σ ∧ b = 2)) (h2 : ¬ (a = 42 ∧ (b = 1 ∨ b = 3))) : kI t' a b = kI t a b := by
  have e := h.1 a b h2
  rw [kI_jI, if_neg h1] at e
  exact e
theorem iS.rd (h : iS S σ0 k μ t s) (hf : rfr σ t t') : iS S σ0 k μ t' s := by
  obtain ⟨h1, h2, h3, h4, ⟨h5, h50⟩, h6, h7, h8, h9⟩ := h
  have eM : kM t' = kM t := hf.2.2.2.2.1
  have eP : kP t' = kP t := hf.2.2.1
  have eN : kN t ≤ kN t' := hf.2.2.2.2.2.2.1
  refine ⟨h1, by rw [eP]; exact h2, by rw [hf.kI (by omega) (by omega)]; exact h3, h4, ⟨hf.s0 h5, by omega⟩, fun j hj => ⟨hf.s1 (h6 j hj).1, (h6 j hj).2⟩, h7, fun m hm σ e => ?_, fun m hm => ?_⟩
  · rw [eM] at e
    obtain ⟨⟨a1, a2⟩, a3, a4⟩ := h8 m hm σ e
    exact ⟨⟨hf.s0 a1, by omega⟩, a3, fun m' σ' hm' e' => by rw [eM] at e'; exact a4 m' σ' hm' e'⟩
  · obtain ⟨a1, a2⟩ := h9 m hm
    exact ⟨by rw [eM]; exact a1, fun j hj => ⟨hf.s1 (a2 j hj).1, (a2 j hj).2⟩⟩
/-- shelf j's THING on the heap -/
theorem c_look {j : Nat} {x : Th 4} (hN : 170000 ≤ N) (h : iS S σ0 k μ t s) (hH : iH t) (hj : j < 8) (hx : S j = some x) : ∃ t' v u, cf_251 N X (Int32.ofNat j) t = some (t', .inl (some (.long v))) ∧ cN (cel t') u v ⟨4, x⟩ ∧ cHp t' u 0 ∧ rfr σ0 t t' ∧ u ≤ 2400 := by
  obtain ⟨h1, h2, h3, h4, ⟨h5, h50⟩, h6, h7, -⟩ := h
  obtain ⟨b1, b2, b3, b4, b5⟩ := hH
  have hw := h7 j x hx
  have hbw := bulk_wf 4 x hw
  have s1 := (h6 j hj).1
  rw [hx] at s1
  have s1 : cS1 t σ0 j (ser 4 x) := s1
  have hl : (ser 4 x).length ≤ 1200 := Nat.le_trans (ser_len 4 x) (by omega)
  have hp : 0 < (ser 4 x).length := by
    obtain ⟨l, e⟩ := ser_kd 4 x
    rw [e]
    exact Nat.succ_pos _
  have f0 : hfr t (jI (jI t 42 1 0) 42 3 0) := by
    refine ⟨fun k f r => ?_, rfl, rfl, fun _ _ _ _ => ⟨rfl, rfl, rfl⟩, rfl, rfl, Nat.le_refl _, Nat.le_refl _, Nat.le_refl _⟩
    show (if k = 42 ∧ f = 3 then _ else (if k = 42 ∧ f = 1 then _ else _)) = _
    rw [if_neg (by omega), if_neg (by omega)]
  have hh : cHp (jI (jI t 42 1 0) 42 3 0) 0 0 := ⟨rfl, rfl, Nat.zero_le _, Nat.zero_le _, b1, b2, b3, b4, b5⟩
  have g1 := h5.1
  have g2 := h5.2.1
  obtain ⟨t', v, u', a1, a2, a3, a4, a5, a6, a7, a8, -⟩ := c_readThing (N := N) (X := X) (σ := σ0) (j := j) (ξ := ser 4 x) hN 4 7 0 x hw (by omega) (jI (jI (jI t 42 1 0) 42 3 0) (3000000 + σ0) 2 0) 0 0 0 [] ⟨hfr.s0 (t' := jI (jI t 42 1 0) 42 3 0) f0 h5, hfr.s1 (t' := jI (jI t 42 1 0) 42 3 0) f0 s1, by show (if _ ∧ _ then _ else _) = _; exact if_pos ⟨rfl, rfl⟩, hl, hj⟩ (cHp_ix (by omega) hh) (by rw [List.drop_zero, List.append_nil]) (Nat.zero_le _) (by show 0 + 4 * bulk 4 x ≤ _; omega)
  have a8 : u' + 1 ≤ 0 + 4 * bulk 4 x := a8
  refine ⟨t', v, u', ?_, a2, a3, rfr.tr (rfr.tr (rfr.of f0) rfr.ix) a4, by omega⟩
  have s1a := s1.1
  have e120 : cf_120 N X t = some (jI (jI t 42 1 0) 42 3 0, .inl none) := rfl
  have a1' : cf_S4 N X 12 217 [.ref σ0, .int (Int32.ofNat j), .int (Int32.ofNat 0)] (jI (jI (jI t 42 1 (Int32.ofNat 0)) 42 3 (Int32.ofNat 0)) (3000000 + σ0) 2 (Int32.ofNat 0)) = some (t', .inl (some (.long v))) := a1
  repeat ((first | unfold cf_251 | unfold cf_251_0 | unfold cf_251_7 | unfold cf_251_19 | unfold cf_215 | unfold cf_215_0 | unfold cf_215_9 | unfold cf_215_14 | unfold cf_215_15 | unfold cf_215_27); try simp (disch := omega) only [ev_S, ev_C, ↓reduceIte, Nat.reduceEqDiff, Nat.reduceLeDiff, Nat.reduceAdd, Nat.reduceMul, Nat.reduceSub, reduceCtorEq, l32_0, l32_1, l32_2, l32_3, l32_4, l32_7, l32_10, l32_12, l32_20, e120, h2, g1, g2, s1a, a1'])
/-- shelf s's kind, the reference's -/
theorem r_kind {j : Nat} (hj : j < 8) (hr : ∀ N s, mf_73 N (Int32.ofNat j) s = some (s, some (.int 1))) (h : rSl (s.2.2.1 47) j (S j)) : mf_79 N (Int32.ofNat j) s = some (s, some (.int (kdO (S j)))) := by
  have e := h.hd
  have r1 := hr N s
  repeat ((first | unfold mf_79 | unfold mf_79_0 | unfold mf_79_4 | unfold mf_79_7 | unfold mf_79_20 | unfold mf_79_21); try simp (disch := omega) only [ev_S, ev_P, ↓reduceIte, Nat.reduceEqDiff, Nat.reduceLeDiff, Nat.reduceAdd, Nat.reduceMul, Nat.reduceSub, reduceCtorEq, l32_0, l32_1, l32_2, l32_3, l32_4, l32_47, l32_2410, l32_166300, r1, e])
/-- a number that is an index, or none -/
theorem ixi (i : Int32) : i = -1 ∨ (¬ i = -1 ∧ i < 0) ∨ ∃ m : Nat, m < 2147483648 ∧ i = Int32.ofNat m := by
  by_cases c : i < 0
  · by_cases c2 : i = -1
    · exact Or.inl c2
    · exact Or.inr (Or.inl ⟨c2, c⟩)
  · obtain ⟨m, h1, h2⟩ := i32of c
    exact Or.inr (Or.inr ⟨m, h1, h2⟩)
end SCE
end
-- ### 76.pure.lean.txt
section
/-! ===== PURE: size and cell (2) ===== -/
section SCF
variable {N : Nat} {X : Nat → Option zz_C} {S : Nat → Option (Th 4)} {σ0 k : Nat} {μ : Nat → Nat} {t : cS} {s : mS}
/-- a slot's INT is its THING's -/
theorem int_vw {x : Th 4} {z : Int32} (h : ser 4 x = [0, z]) : vw ⟨4, x⟩ = .inl z := by
  have e : ser 4 x = _ := vw_ser ⟨4, x⟩
  rw [h] at e
  generalize vw ⟨4, x⟩ = V at e
  obtain y | r | q | w := V
  · have := (List.cons.inj (List.cons.inj e).2).1
    rw [this]
  · exact absurd (List.cons.inj e).1 (show ¬ (0 : Int32) = 1 by decide)
  · exact absurd (List.cons.inj e).1 (show ¬ (0 : Int32) = 2 by decide)
  · exact absurd (List.cons.inj e).1 (show ¬ (0 : Int32) = 3 by decide)
theorem p_size (hN : 170000 ≤ N) (h : iS S σ0 k μ t s) (hH : iH t) (a i : Int32) : ∃ t', ∃ v : Int32, cf_15 N X a i t = some (t', .inl (some (.int v))) ∧ mf_80 N a i s = some (s, some (.int v)) ∧ rfr σ0 t t' ∧ iH t' := by
  have h' := h
  obtain ⟨h1, h2, h3, h4, ⟨h5, h50⟩, h6, h7, -⟩ := h'
  have h5a := h5.1
  rcases isSh a with ⟨j, hj, rfl, q1, q2⟩ | ⟨q1, q2⟩
  · have ck := c_kindOn (N := N) (X := X) h5 hj (Nat.le_trans (serO_len (fun y hy => h7 j y hy)) (by omega)) (h6 j hj).1
    have rk := r_kind (N := N) hj q2 (h6 j hj).2
    have q1 := q1 N X t
    obtain ⟨e1, g1⟩ | ⟨x, z, e1, g0, g1, g2⟩ | ⟨x, m, e1, g1, g2, g3, g4⟩ := slot3 (h6 j hj).2
    · rw [e1] at ck rk
      have e : kdO none = -Int32.ofNat 1 := rfl
      refine ⟨t, -1, ?_, ?_, rfr.rf, hH⟩
      · repeat ((first | unfold cf_15 | unfold cf_15_0 | unfold cf_15_4 | unfold cf_15_7 | unfold cf_15_15 | unfold cf_15_19 | unfold cf_15_21 | unfold cf_15_26 | unfold cf_15_32 | unfold cf_15_40 | unfold cf_15_41 | unfold cf_15_45 | unfold cf_15_54 | unfold cf_15_57 | unfold cf_15_61 | unfold cf_15_65 | unfold cf_15_67 | unfold cf_15_76 | unfold cf_15_82 | unfold cf_15_86 | unfold cf_15_95 | unfold cf_15_98 | unfold cf_15_103); try simp (disch := omega) only [ev_S, ev_C, ↓reduceIte, Nat.reduceEqDiff, Nat.reduceLeDiff, Nat.reduceAdd, Nat.reduceMul, Nat.reduceSub, reduceCtorEq, l32_0, l32_1, l32_2, l32_3, l32_4, l32_7, l32_12, q1, h2, h5a, ck, e])
      · repeat ((first | unfold mf_80 | unfold mf_80_0 | unfold mf_80_5 | unfold mf_80_10 | unfold mf_80_12 | unfold mf_80_24 | unfold mf_80_28 | unfold mf_80_32 | unfold mf_80_38 | unfold mf_80_39 | unfold mf_80_44 | unfold mf_80_48 | unfold mf_80_55 | unfold mf_80_58 | unfold mf_80_60 | unfold mf_80_65 | unfold mf_80_73 | unfold mf_80_76 | unfold mf_80_77 | unfold mf_80_84 | unfold mf_80_87 | unfold mf_80_91 | unfold mf_80_102 | unfold mf_80_103); try simp (disch := omega) only [ev_S, ev_P, ↓reduceIte, Nat.reduceEqDiff, Nat.reduceLeDiff, Nat.reduceAdd, Nat.reduceMul, Nat.reduceSub, reduceCtorEq, l32_0, l32_1, l32_2, l32_3, l32_4, l32_47, l32_2410, l32_166300, rk, e])
    · obtain ⟨t', v, u, b1, b2, b3, b4, b5⟩ := c_look (N := N) (X := X) hN h hH hj e1
      have sz := c_size (N := N) (X := X) b3 b2
      rw [int_vw g0] at sz
      rw [e1] at ck rk
      have e : kdO (some x) = Int32.ofNat 0 := by
        have := (h6 j hj).2.hd
        rw [g1, e1] at this
        exact this.symm
      rcases ixi i with rfl | ⟨c1, c2⟩ | ⟨m, m1, rfl⟩
      · refine ⟨t', 0, ?_, ?_, b4, b3.iH⟩
        · repeat ((first | unfold cf_15 | unfold cf_15_0 | unfold cf_15_4 | unfold cf_15_7 | unfold cf_15_15 | unfold cf_15_19 | unfold cf_15_21 | unfold cf_15_26 | unfold cf_15_32 | unfold cf_15_40 | unfold cf_15_41 | unfold cf_15_45 | unfold cf_15_54 | unfold cf_15_57 | unfold cf_15_61 | unfold cf_15_65 | unfold cf_15_67 | unfold cf_15_76 | unfold cf_15_82 | unfold cf_15_86 | unfold cf_15_95 | unfold cf_15_98 | unfold cf_15_103); try simp (disch := omega) only [ev_S, ev_C, ↓reduceIte, Nat.reduceEqDiff, Nat.reduceLeDiff, Nat.reduceAdd, Nat.reduceMul, Nat.reduceSub, reduceCtorEq, l32_0, l32_1, l32_2, l32_3, l32_4, l32_7, l32_12, q1, h2, h5a, ck, e, b1, sz, szV])
        · repeat ((first | unfold mf_80 | unfold mf_80_0 | unfold mf_80_5 | unfold mf_80_10 | unfold mf_80_12 | unfold mf_80_24 | unfold mf_80_28 | unfold mf_80_32 | unfold mf_80_38 | unfold mf_80_39 | unfold mf_80_44 | unfold mf_80_48 | unfold mf_80_55 | unfold mf_80_58 | unfold mf_80_60 | unfold mf_80_65 | unfold mf_80_73 | unfold mf_80_76 | unfold mf_80_77 | unfold mf_80_84 | unfold mf_80_87 | unfold mf_80_91 | unfold mf_80_102 | unfold mf_80_103); try simp (disch := omega) only [ev_S, ev_P, ↓reduceIte, Nat.reduceEqDiff, Nat.reduceLeDiff, Nat.reduceAdd, Nat.reduceMul, Nat.reduceSub, reduceCtorEq, l32_0, l32_1, l32_2, l32_3, l32_4, l32_47, l32_2410, l32_166300, rk, e])
      · have c1 : ¬ i = -Int32.ofNat 1 := c1
        have c2 : i < Int32.ofNat 0 := c2
        refine ⟨t', -1, ?_, ?_, b4, b3.iH⟩
        · repeat ((first | unfold cf_15 | unfold cf_15_0 | unfold cf_15_4 | unfold cf_15_7 | unfold cf_15_15 | unfold cf_15_19 | unfold cf_15_21 | unfold cf_15_26 | unfold cf_15_32 | unfold cf_15_40 | unfold cf_15_41 | unfold cf_15_45 | unfold cf_15_54 | unfold cf_15_57 | unfold cf_15_61 | unfold cf_15_65 | unfold cf_15_67 | unfold cf_15_76 | unfold cf_15_82 | unfold cf_15_86 | unfold cf_15_95 | unfold cf_15_98 | unfold cf_15_103); try simp (disch := omega) only [ev_S, ev_C, ↓reduceIte, Nat.reduceEqDiff, Nat.reduceLeDiff, Nat.reduceAdd, Nat.reduceMul, Nat.reduceSub, reduceCtorEq, l32_0, l32_1, l32_2, l32_3, l32_4, l32_7, l32_12, q1, h2, h5a, ck, e, b1, sz, szV, c1, c2])
        · repeat ((first | unfold mf_80 | unfold mf_80_0 | unfold mf_80_5 | unfold mf_80_10 | unfold mf_80_12 | unfold mf_80_24 | unfold mf_80_28 | unfold mf_80_32 | unfold mf_80_38 | unfold mf_80_39 | unfold mf_80_44 | unfold mf_80_48 | unfold mf_80_55 | unfold mf_80_58 | unfold mf_80_60 | unfold mf_80_65 | unfold mf_80_73 | unfold mf_80_76 | unfold mf_80_77 | unfold mf_80_84 | unfold mf_80_87 | unfold mf_80_91 | unfold mf_80_102 | unfold mf_80_103); try simp (disch := omega) only [ev_S, ev_P, ↓reduceIte, Nat.reduceEqDiff, Nat.reduceLeDiff, Nat.reduceAdd, Nat.reduceMul, Nat.reduceSub, reduceCtorEq, l32_0, l32_1, l32_2, l32_3, l32_4, l32_47, l32_2410, l32_166300, rk, e, c1])
      · refine ⟨t', -1, ?_, ?_, b4, b3.iH⟩
        · repeat ((first | unfold cf_15 | unfold cf_15_0 | unfold cf_15_4 | unfold cf_15_7 | unfold cf_15_15 | unfold cf_15_19 | unfold cf_15_21 | unfold cf_15_26 | unfold cf_15_32 | unfold cf_15_40 | unfold cf_15_41 | unfold cf_15_45 | unfold cf_15_54 | unfold cf_15_57 | unfold cf_15_61 | unfold cf_15_65 | unfold cf_15_67 | unfold cf_15_76 | unfold cf_15_82 | unfold cf_15_86 | unfold cf_15_95 | unfold cf_15_98 | unfold cf_15_103); try simp (disch := omega) only [ev_S, ev_C, ↓reduceIte, Nat.reduceEqDiff, Nat.reduceLeDiff, Nat.reduceAdd, Nat.reduceMul, Nat.reduceSub, reduceCtorEq, l32_0, l32_1, l32_2, l32_3, l32_4, l32_7, l32_12, q1, h2, h5a, ck, e, b1, sz, szV])
        · repeat ((first | unfold mf_80 | unfold mf_80_0 | unfold mf_80_5 | unfold mf_80_10 | unfold mf_80_12 | unfold mf_80_24 | unfold mf_80_28 | unfold mf_80_32 | unfold mf_80_38 | unfold mf_80_39 | unfold mf_80_44 | unfold mf_80_48 | unfold mf_80_55 | unfold mf_80_58 | unfold mf_80_60 | unfold mf_80_65 | unfold mf_80_73 | unfold mf_80_76 | unfold mf_80_77 | unfold mf_80_84 | unfold mf_80_87 | unfold mf_80_91 | unfold mf_80_102 | unfold mf_80_103); try simp (disch := omega) only [ev_S, ev_P, ↓reduceIte, Nat.reduceEqDiff, Nat.reduceLeDiff, Nat.reduceAdd, Nat.reduceMul, Nat.reduceSub, reduceCtorEq, l32_0, l32_1, l32_2, l32_3, l32_4, l32_47, l32_2410, l32_166300, rk, e])
    · obtain ⟨t', v, u, b1, b2, b3, b4, b5⟩ := c_look (N := N) (X := X) hN h hH hj e1
      have sz := c_size (N := N) (X := X) b3 b2
      have kv := c_kind (N := N) (X := X) b2
      obtain ⟨L1, L2⟩ := LayN_iff.mp g4
      have kd := L2.kd
      have b2 := cN_iff.mp b2
      have hw := vw_wf ⟨4, x⟩ (h7 j x e1)
      have hc : 2410 * j + wV wn (vw ⟨4, x⟩) ≤ 166300 := by
        have := (L1 (2410 * j + wV wn (vw ⟨4, x⟩) - 1) (by omega) (by omega)).2
        omega
      have zz := r_size (N := N) L2 hc
      rw [g3] at kv
      rw [e1] at ck rk
      have e : kdO (some x) = Int32.ofNat (m + 1) := by
        have := (h6 j hj).2.hd
        rw [g1, e1] at this
        exact this.symm
      generalize vw ⟨4, x⟩ = V at *
      have hz9 : szV V ≤ 64 := by
        obtain y | r | q | w := V
        · exact Nat.zero_le _
        · exact hw
        · exact Nat.le_trans hw.1 (by omega)
        · exact Nat.le_trans hw.1 (by omega)
      rcases ixi i with rfl | ⟨c1, c2⟩ | ⟨i, i1, rfl⟩
      · refine ⟨t', Int32.ofNat (szV V), ?_, ?_, b4, b3.iH⟩
        · repeat ((first | unfold cf_15 | unfold cf_15_0 | unfold cf_15_4 | unfold cf_15_7 | unfold cf_15_15 | unfold cf_15_19 | unfold cf_15_21 | unfold cf_15_26 | unfold cf_15_32 | unfold cf_15_40 | unfold cf_15_41 | unfold cf_15_45 | unfold cf_15_54 | unfold cf_15_57 | unfold cf_15_61 | unfold cf_15_65 | unfold cf_15_67 | unfold cf_15_76 | unfold cf_15_82 | unfold cf_15_86 | unfold cf_15_95 | unfold cf_15_98 | unfold cf_15_103); try simp (disch := omega) only [ev_S, ev_C, ↓reduceIte, Nat.reduceEqDiff, Nat.reduceLeDiff, Nat.reduceAdd, Nat.reduceMul, Nat.reduceSub, reduceCtorEq, l32_0, l32_1, l32_2, l32_3, l32_4, l32_7, l32_12, q1, h2, h5a, ck, e, b1, sz])
        · repeat ((first | unfold mf_80 | unfold mf_80_0 | unfold mf_80_5 | unfold mf_80_10 | unfold mf_80_12 | unfold mf_80_24 | unfold mf_80_28 | unfold mf_80_32 | unfold mf_80_38 | unfold mf_80_39 | unfold mf_80_44 | unfold mf_80_48 | unfold mf_80_55 | unfold mf_80_58 | unfold mf_80_60 | unfold mf_80_65 | unfold mf_80_73 | unfold mf_80_76 | unfold mf_80_77 | unfold mf_80_84 | unfold mf_80_87 | unfold mf_80_91 | unfold mf_80_102 | unfold mf_80_103); try simp (disch := omega) only [ev_S, ev_P, ↓reduceIte, Nat.reduceEqDiff, Nat.reduceLeDiff, Nat.reduceAdd, Nat.reduceMul, Nat.reduceSub, reduceCtorEq, l32_0, l32_1, l32_2, l32_3, l32_4, l32_47, l32_2410, l32_166300, rk, e, zz])
      · have c1 : ¬ i = -Int32.ofNat 1 := c1
        have c2 : i < Int32.ofNat 0 := c2
        refine ⟨t', -1, ?_, ?_, b4, b3.iH⟩
        · repeat ((first | unfold cf_15 | unfold cf_15_0 | unfold cf_15_4 | unfold cf_15_7 | unfold cf_15_15 | unfold cf_15_19 | unfold cf_15_21 | unfold cf_15_26 | unfold cf_15_32 | unfold cf_15_40 | unfold cf_15_41 | unfold cf_15_45 | unfold cf_15_54 | unfold cf_15_57 | unfold cf_15_61 | unfold cf_15_65 | unfold cf_15_67 | unfold cf_15_76 | unfold cf_15_82 | unfold cf_15_86 | unfold cf_15_95 | unfold cf_15_98 | unfold cf_15_103); try simp (disch := omega) only [ev_S, ev_C, ↓reduceIte, Nat.reduceEqDiff, Nat.reduceLeDiff, Nat.reduceAdd, Nat.reduceMul, Nat.reduceSub, reduceCtorEq, l32_0, l32_1, l32_2, l32_3, l32_4, l32_7, l32_12, q1, h2, h5a, ck, e, b1, c1, c2])
        · by_cases c3 : m + 1 < 2
          · repeat ((first | unfold mf_80 | unfold mf_80_0 | unfold mf_80_5 | unfold mf_80_10 | unfold mf_80_12 | unfold mf_80_24 | unfold mf_80_28 | unfold mf_80_32 | unfold mf_80_38 | unfold mf_80_39 | unfold mf_80_44 | unfold mf_80_48 | unfold mf_80_55 | unfold mf_80_58 | unfold mf_80_60 | unfold mf_80_65 | unfold mf_80_73 | unfold mf_80_76 | unfold mf_80_77 | unfold mf_80_84 | unfold mf_80_87 | unfold mf_80_91 | unfold mf_80_102 | unfold mf_80_103); try simp (disch := omega) only [ev_S, ev_P, ↓reduceIte, Nat.reduceEqDiff, Nat.reduceLeDiff, Nat.reduceAdd, Nat.reduceMul, Nat.reduceSub, reduceCtorEq, l32_0, l32_1, l32_2, l32_3, l32_4, l32_47, l32_2410, l32_166300, rk, e, c1])
          · repeat ((first | unfold mf_80 | unfold mf_80_0 | unfold mf_80_5 | unfold mf_80_10 | unfold mf_80_12 | unfold mf_80_24 | unfold mf_80_28 | unfold mf_80_32 | unfold mf_80_38 | unfold mf_80_39 | unfold mf_80_44 | unfold mf_80_48 | unfold mf_80_55 | unfold mf_80_58 | unfold mf_80_60 | unfold mf_80_65 | unfold mf_80_73 | unfold mf_80_76 | unfold mf_80_77 | unfold mf_80_84 | unfold mf_80_87 | unfold mf_80_91 | unfold mf_80_102 | unfold mf_80_103); try simp (disch := omega) only [ev_S, ev_P, ↓reduceIte, Nat.reduceEqDiff, Nat.reduceLeDiff, Nat.reduceAdd, Nat.reduceMul, Nat.reduceSub, reduceCtorEq, l32_0, l32_1, l32_2, l32_3, l32_4, l32_47, l32_2410, l32_166300, rk, e, c1, c2])
      · by_cases c3 : szV V ≤ i
        · refine ⟨t', -1, ?_, ?_, b4, b3.iH⟩
          · repeat ((first | unfold cf_15 | unfold cf_15_0 | unfold cf_15_4 | unfold cf_15_7 | unfold cf_15_15 | unfold cf_15_19 | unfold cf_15_21 | unfold cf_15_26 | unfold cf_15_32 | unfold cf_15_40 | unfold cf_15_41 | unfold cf_15_45 | unfold cf_15_54 | unfold cf_15_57 | unfold cf_15_61 | unfold cf_15_65 | unfold cf_15_67 | unfold cf_15_76 | unfold cf_15_82 | unfold cf_15_86 | unfold cf_15_95 | unfold cf_15_98 | unfold cf_15_103); try simp (disch := omega) only [ev_S, ev_C, ↓reduceIte, Nat.reduceEqDiff, Nat.reduceLeDiff, Nat.reduceAdd, Nat.reduceMul, Nat.reduceSub, reduceCtorEq, l32_0, l32_1, l32_2, l32_3, l32_4, l32_7, l32_12, q1, h2, h5a, ck, e, b1, sz])
          · by_cases c3 : m + 1 < 2
            · repeat ((first | unfold mf_80 | unfold mf_80_0 | unfold mf_80_5 | unfold mf_80_10 | unfold mf_80_12 | unfold mf_80_24 | unfold mf_80_28 | unfold mf_80_32 | unfold mf_80_38 | unfold mf_80_39 | unfold mf_80_44 | unfold mf_80_48 | unfold mf_80_55 | unfold mf_80_58 | unfold mf_80_60 | unfold mf_80_65 | unfold mf_80_73 | unfold mf_80_76 | unfold mf_80_77 | unfold mf_80_84 | unfold mf_80_87 | unfold mf_80_91 | unfold mf_80_102 | unfold mf_80_103); try simp (disch := omega) only [ev_S, ev_P, ↓reduceIte, Nat.reduceEqDiff, Nat.reduceLeDiff, Nat.reduceAdd, Nat.reduceMul, Nat.reduceSub, reduceCtorEq, l32_0, l32_1, l32_2, l32_3, l32_4, l32_47, l32_2410, l32_166300, rk, e])
            · repeat ((first | unfold mf_80 | unfold mf_80_0 | unfold mf_80_5 | unfold mf_80_10 | unfold mf_80_12 | unfold mf_80_24 | unfold mf_80_28 | unfold mf_80_32 | unfold mf_80_38 | unfold mf_80_39 | unfold mf_80_44 | unfold mf_80_48 | unfold mf_80_55 | unfold mf_80_58 | unfold mf_80_60 | unfold mf_80_65 | unfold mf_80_73 | unfold mf_80_76 | unfold mf_80_77 | unfold mf_80_84 | unfold mf_80_87 | unfold mf_80_91 | unfold mf_80_102 | unfold mf_80_103); try simp (disch := omega) only [ev_S, ev_P, ↓reduceIte, Nat.reduceEqDiff, Nat.reduceLeDiff, Nat.reduceAdd, Nat.reduceMul, Nat.reduceSub, reduceCtorEq, l32_0, l32_1, l32_2, l32_3, l32_4, l32_47, l32_2410, l32_166300, rk, e, zz])
        · obtain y | r | q | ⟨n, l⟩ := V
          · have := ofNat_inj (a := 0) (by omega) (by omega) g3
            omega
          · have em : 1 = m + 1 := ofNat_inj (a := 1) (by omega) (by omega) g3
            have em : m = 0 := by omega
            subst em
            refine ⟨t', -1, ?_, ?_, b4, b3.iH⟩
            · repeat ((first | unfold cf_15 | unfold cf_15_0 | unfold cf_15_4 | unfold cf_15_7 | unfold cf_15_15 | unfold cf_15_19 | unfold cf_15_21 | unfold cf_15_26 | unfold cf_15_32 | unfold cf_15_40 | unfold cf_15_41 | unfold cf_15_45 | unfold cf_15_54 | unfold cf_15_57 | unfold cf_15_61 | unfold cf_15_65 | unfold cf_15_67 | unfold cf_15_76 | unfold cf_15_82 | unfold cf_15_86 | unfold cf_15_95 | unfold cf_15_98 | unfold cf_15_103); try simp (disch := omega) only [ev_S, ev_C, ↓reduceIte, Nat.reduceEqDiff, Nat.reduceLeDiff, Nat.reduceAdd, Nat.reduceMul, Nat.reduceSub, reduceCtorEq, l32_0, l32_1, l32_2, l32_3, l32_4, l32_7, l32_12, q1, h2, h5a, ck, e, b1, sz, kv])
            · repeat ((first | unfold mf_80 | unfold mf_80_0 | unfold mf_80_5 | unfold mf_80_10 | unfold mf_80_12 | unfold mf_80_24 | unfold mf_80_28 | unfold mf_80_32 | unfold mf_80_38 | unfold mf_80_39 | unfold mf_80_44 | unfold mf_80_48 | unfold mf_80_55 | unfold mf_80_58 | unfold mf_80_60 | unfold mf_80_65 | unfold mf_80_73 | unfold mf_80_76 | unfold mf_80_77 | unfold mf_80_84 | unfold mf_80_87 | unfold mf_80_91 | unfold mf_80_102 | unfold mf_80_103); try simp (disch := omega) only [ev_S, ev_P, ↓reduceIte, Nat.reduceEqDiff, Nat.reduceLeDiff, Nat.reduceAdd, Nat.reduceMul, Nat.reduceSub, reduceCtorEq, l32_0, l32_1, l32_2, l32_3, l32_4, l32_47, l32_2410, l32_166300, rk, e])
          · have em : 2 = m + 1 := ofNat_inj (a := 2) (by omega) (by omega) g3
            have em : m = 1 := by omega
            subst em
            have hi : i < q.length := by
              have : ¬ q.length ≤ i := c3
              omega
            have hz8 : q.length ≤ 64 := hz9
            obtain ⟨v', p1, p2⟩ := c_partT (N := N) (X := X) b3 b2 hi
            have pz := c_size (N := N) (X := X) b3 p2
            have pz : cf_128 N X v' t' = some (t', .inl (some (.int (Int32.ofNat (q[i].length))))) := pz
            obtain ⟨c, o1, o2⟩ := r_partT (N := N) L2 hc hi
            obtain ⟨M1, M2⟩ := LayN_iff.mp o2
            have kd2 := M2.kd
            have hc2 : c + wV wn (vw (nR q[i])) ≤ 166300 := by
              have := (M1 (c + wV wn (vw (nR q[i])) - 1) (by omega) (by omega)).2
              omega
            have oz := r_size (N := N) M2 hc2
            have oz : mf_77 N (Int32.ofNat c) s = some (s, some (.int (Int32.ofNat (q[i].length)))) := oz
            refine ⟨t', Int32.ofNat q[i].length, ?_, ?_, b4, b3.iH⟩
            · repeat ((first | unfold cf_15 | unfold cf_15_0 | unfold cf_15_4 | unfold cf_15_7 | unfold cf_15_15 | unfold cf_15_19 | unfold cf_15_21 | unfold cf_15_26 | unfold cf_15_32 | unfold cf_15_40 | unfold cf_15_41 | unfold cf_15_45 | unfold cf_15_54 | unfold cf_15_57 | unfold cf_15_61 | unfold cf_15_65 | unfold cf_15_67 | unfold cf_15_76 | unfold cf_15_82 | unfold cf_15_86 | unfold cf_15_95 | unfold cf_15_98 | unfold cf_15_103); try simp (disch := omega) only [ev_S, ev_C, ↓reduceIte, Nat.reduceEqDiff, Nat.reduceLeDiff, Nat.reduceAdd, Nat.reduceMul, Nat.reduceSub, reduceCtorEq, l32_0, l32_1, l32_2, l32_3, l32_4, l32_7, l32_12, q1, h2, h5a, ck, e, b1, sz, kv, p1, pz, szV])
            · repeat ((first | unfold mf_80 | unfold mf_80_0 | unfold mf_80_5 | unfold mf_80_10 | unfold mf_80_12 | unfold mf_80_24 | unfold mf_80_28 | unfold mf_80_32 | unfold mf_80_38 | unfold mf_80_39 | unfold mf_80_44 | unfold mf_80_48 | unfold mf_80_55 | unfold mf_80_58 | unfold mf_80_60 | unfold mf_80_65 | unfold mf_80_73 | unfold mf_80_76 | unfold mf_80_77 | unfold mf_80_84 | unfold mf_80_87 | unfold mf_80_91 | unfold mf_80_102 | unfold mf_80_103); try simp (disch := omega) only [ev_S, ev_P, ↓reduceIte, Nat.reduceEqDiff, Nat.reduceLeDiff, Nat.reduceAdd, Nat.reduceMul, Nat.reduceSub, reduceCtorEq, l32_0, l32_1, l32_2, l32_3, l32_4, l32_47, l32_2410, l32_166300, rk, e, zz, szV, o1, oz])
          · have em : 3 = m + 1 := ofNat_inj (a := 3) (by omega) (by omega) g3
            have em : m = 2 := by omega
            subst em
            have hi : i < l.length := by
              have : ¬ l.length ≤ i := c3
              omega
            have hz8 : l.length ≤ 64 := hz9
            obtain ⟨v', p1, p2⟩ := c_partP (N := N) (X := X) b3 b2 hi
            have pk := c_kind (N := N) (X := X) p2
            have ii := r_isInt (N := N) L2 hc hi
            have iv : intT n l[i] = intV (vw ⟨n, l[i]⟩) := vw_int ⟨n, l[i]⟩
            refine ⟨t', kdV (vw ⟨n, l[i]⟩), ?_, ?_, b4, b3.iH⟩
            · repeat ((first | unfold cf_15 | unfold cf_15_0 | unfold cf_15_4 | unfold cf_15_7 | unfold cf_15_15 | unfold cf_15_19 | unfold cf_15_21 | unfold cf_15_26 | unfold cf_15_32 | unfold cf_15_40 | unfold cf_15_41 | unfold cf_15_45 | unfold cf_15_54 | unfold cf_15_57 | unfold cf_15_61 | unfold cf_15_65 | unfold cf_15_67 | unfold cf_15_76 | unfold cf_15_82 | unfold cf_15_86 | unfold cf_15_95 | unfold cf_15_98 | unfold cf_15_103); try simp (disch := omega) only [ev_S, ev_C, ↓reduceIte, Nat.reduceEqDiff, Nat.reduceLeDiff, Nat.reduceAdd, Nat.reduceMul, Nat.reduceSub, reduceCtorEq, l32_0, l32_1, l32_2, l32_3, l32_4, l32_7, l32_12, q1, h2, h5a, ck, e, b1, sz, kv, p1, pk, szV])
            · cases hA : intT n l[i] with
              | some z =>
                rw [hA] at ii
                have ii : mf_293 N (Int32.ofNat (2410 * j)) (Int32.ofNat i) s = some (s, some (.int 1)) := ii
                rw [intV_s (iv.symm.trans hA)]
                have e0 : kdV (Sum.inl z) = Int32.ofNat 0 := rfl
                repeat ((first | unfold mf_80 | unfold mf_80_0 | unfold mf_80_5 | unfold mf_80_10 | unfold mf_80_12 | unfold mf_80_24 | unfold mf_80_28 | unfold mf_80_32 | unfold mf_80_38 | unfold mf_80_39 | unfold mf_80_44 | unfold mf_80_48 | unfold mf_80_55 | unfold mf_80_58 | unfold mf_80_60 | unfold mf_80_65 | unfold mf_80_73 | unfold mf_80_76 | unfold mf_80_77 | unfold mf_80_84 | unfold mf_80_87 | unfold mf_80_91 | unfold mf_80_102 | unfold mf_80_103); try simp (disch := omega) only [ev_S, ev_P, ↓reduceIte, Nat.reduceEqDiff, Nat.reduceLeDiff, Nat.reduceAdd, Nat.reduceMul, Nat.reduceSub, reduceCtorEq, l32_0, l32_1, l32_2, l32_3, l32_4, l32_47, l32_2410, l32_166300, rk, e, zz, szV, ii, e0])
              | none =>
                rw [hA] at ii
                have ii : mf_293 N (Int32.ofNat (2410 * j)) (Int32.ofNat i) s = some (s, some (.int 0)) := ii
                obtain ⟨c, o1, o2⟩ := r_partP (N := N) L2 hc hi hA
                obtain ⟨M1, M2⟩ := LayN_iff.mp o2
                have kd2 := M2.kd
                have hc2 : c + wV wn (vw ⟨n, l[i]⟩) ≤ 166300 := by
                  have := (M1 (c + wV wn (vw ⟨n, l[i]⟩) - 1) (by omega) (by omega)).2
                  omega
                have kd3 := kd2.1
                repeat ((first | unfold mf_80 | unfold mf_80_0 | unfold mf_80_5 | unfold mf_80_10 | unfold mf_80_12 | unfold mf_80_24 | unfold mf_80_28 | unfold mf_80_32 | unfold mf_80_38 | unfold mf_80_39 | unfold mf_80_44 | unfold mf_80_48 | unfold mf_80_55 | unfold mf_80_58 | unfold mf_80_60 | unfold mf_80_65 | unfold mf_80_73 | unfold mf_80_76 | unfold mf_80_77 | unfold mf_80_84 | unfold mf_80_87 | unfold mf_80_91 | unfold mf_80_102 | unfold mf_80_103); try simp (disch := omega) only [ev_S, ev_P, ↓reduceIte, Nat.reduceEqDiff, Nat.reduceLeDiff, Nat.reduceAdd, Nat.reduceMul, Nat.reduceSub, reduceCtorEq, l32_0, l32_1, l32_2, l32_3, l32_4, l32_47, l32_2410, l32_166300, rk, e, zz, szV, ii, o1, kd3])
  · refine ⟨t, -1, ?_, ?_, rfr.rf, hH⟩
    · have q1 := q1 N X t
      repeat ((first | unfold cf_15 | unfold cf_15_0 | unfold cf_15_4 | unfold cf_15_7 | unfold cf_15_15 | unfold cf_15_19 | unfold cf_15_21 | unfold cf_15_26 | unfold cf_15_32 | unfold cf_15_40 | unfold cf_15_41 | unfold cf_15_45 | unfold cf_15_54 | unfold cf_15_57 | unfold cf_15_61 | unfold cf_15_65 | unfold cf_15_67 | unfold cf_15_76 | unfold cf_15_82 | unfold cf_15_86 | unfold cf_15_95 | unfold cf_15_98 | unfold cf_15_103); try simp (disch := omega) only [ev_S, ev_C, ↓reduceIte, Nat.reduceEqDiff, Nat.reduceLeDiff, Nat.reduceAdd, Nat.reduceMul, Nat.reduceSub, reduceCtorEq, l32_0, l32_1, l32_2, l32_3, l32_4, l32_7, l32_12, q1])
    · have r1 := q2 N s
      have r2 : mf_79 N a s = some (s, some (.int (-1))) := by
        repeat ((first | unfold mf_79 | unfold mf_79_0 | unfold mf_79_4 | unfold mf_79_7 | unfold mf_79_20 | unfold mf_79_21); try simp (disch := omega) only [ev_S, ev_P, ↓reduceIte, Nat.reduceEqDiff, Nat.reduceLeDiff, Nat.reduceAdd, Nat.reduceMul, Nat.reduceSub, reduceCtorEq, l32_0, l32_1, l32_2, l32_3, l32_4, l32_47, l32_2410, l32_166300, r1])
      repeat ((first | unfold mf_80 | unfold mf_80_0 | unfold mf_80_5 | unfold mf_80_10 | unfold mf_80_12 | unfold mf_80_24 | unfold mf_80_28 | unfold mf_80_32 | unfold mf_80_38 | unfold mf_80_39 | unfold mf_80_44 | unfold mf_80_48 | unfold mf_80_55 | unfold mf_80_58 | unfold mf_80_60 | unfold mf_80_65 | unfold mf_80_73 | unfold mf_80_76 | unfold mf_80_77 | unfold mf_80_84 | unfold mf_80_87 | unfold mf_80_91 | unfold mf_80_102 | unfold mf_80_103); try simp (disch := omega) only [ev_S, ev_P, ↓reduceIte, Nat.reduceEqDiff, Nat.reduceLeDiff, Nat.reduceAdd, Nat.reduceMul, Nat.reduceSub, reduceCtorEq, l32_0, l32_1, l32_2, l32_3, l32_4, l32_47, l32_2410, l32_166300, r2])
end SCF
end
-- ### 77.pure.lean.txt
section
/-! ===== PURE: cell ===== -/
section SCG
variable {N : Nat} {X : Nat → Option zz_C} {S : Nat → Option (Th 4)} {σ0 k : Nat} {μ : Nat → Nat} {t : cS} {s : mS}
/-- INT j of a ROW that both have -/
theorem cell_row {r : List Int32} {v : Int64} {u w c : Nat} {P : Nat → Nod → Prop} (hr : r.length ≤ 64) (b3 : cHp t u w) (p2 : cN (cel t) u v (nR r)) (L2 : Wy (s.2.2.1 47) c P (vR r)) (hc : c + wV wn (vR r) ≤ 166300) (jj : Int32) : ∃ z : Int32, cf_16_87 N X jj v t = some (t, .inl (some (.int z))) ∧ mf_81_107 N jj (Int32.ofNat c) s = some (s, some (.int z)) := by
  have b2 := cN_iff.mp p2
  have sz := c_size (N := N) (X := X) b3 p2
  have kv := c_kind (N := N) (X := X) p2
  have e1 : vw (nR r) = vR r := rfl
  rw [e1] at sz kv b2
  have e2 : kdV (vR r) = Int32.ofNat 1 := rfl
  have zz := r_size (N := N) L2 hc
  have kd : s.2.2.1 47 c = 1 := L2.kd.1
  have hc' : c + (2 + r.length) ≤ 166300 := hc
  rcases ixi jj with rfl | ⟨c1, c2⟩ | ⟨j, j1, rfl⟩
  · refine ⟨0, ?_, ?_⟩
    · repeat ((first | unfold cf_16_87 | unfold cf_16_92 | unfold cf_16_96 | unfold cf_16_100 | unfold cf_16_110 | unfold cf_16_126 | unfold cf_16_127); try simp (disch := omega) only [ev_S, ev_C, ↓reduceIte, Nat.reduceEqDiff, Nat.reduceLeDiff, Nat.reduceAdd, Nat.reduceMul, Nat.reduceSub, reduceCtorEq, l32_0, l32_1, l32_2, l32_3, l32_4, kv, e2])
    · repeat ((first | unfold mf_81_107 | unfold mf_81_120 | unfold mf_81_148 | unfold mf_81_149); try simp (disch := omega) only [ev_S, ev_P, ↓reduceIte, Nat.reduceEqDiff, Nat.reduceLeDiff, Nat.reduceAdd, Nat.reduceMul, Nat.reduceSub, reduceCtorEq, l32_0, l32_1, l32_2, l32_3, l32_4, l32_47, l32_166300, kd])
  · have c2 : jj < Int32.ofNat 0 := c2
    refine ⟨0, ?_, ?_⟩
    · repeat ((first | unfold cf_16_87 | unfold cf_16_92 | unfold cf_16_96 | unfold cf_16_100 | unfold cf_16_110 | unfold cf_16_126 | unfold cf_16_127); try simp (disch := omega) only [ev_S, ev_C, ↓reduceIte, Nat.reduceEqDiff, Nat.reduceLeDiff, Nat.reduceAdd, Nat.reduceMul, Nat.reduceSub, reduceCtorEq, l32_0, l32_1, l32_2, l32_3, l32_4, kv, e2, c2])
    · repeat ((first | unfold mf_81_107 | unfold mf_81_120 | unfold mf_81_148 | unfold mf_81_149); try simp (disch := omega) only [ev_S, ev_P, ↓reduceIte, Nat.reduceEqDiff, Nat.reduceLeDiff, Nat.reduceAdd, Nat.reduceMul, Nat.reduceSub, reduceCtorEq, l32_0, l32_1, l32_2, l32_3, l32_4, l32_47, l32_166300, kd, c2])
  · by_cases c3 : r.length ≤ j
    · refine ⟨0, ?_, ?_⟩
      · repeat ((first | unfold cf_16_87 | unfold cf_16_92 | unfold cf_16_96 | unfold cf_16_100 | unfold cf_16_110 | unfold cf_16_126 | unfold cf_16_127); try simp (disch := omega) only [ev_S, ev_C, ↓reduceIte, Nat.reduceEqDiff, Nat.reduceLeDiff, Nat.reduceAdd, Nat.reduceMul, Nat.reduceSub, reduceCtorEq, l32_0, l32_1, l32_2, l32_3, l32_4, kv, e2, sz, szV])
      · repeat ((first | unfold mf_81_107 | unfold mf_81_120 | unfold mf_81_124 | unfold mf_81_131 | unfold mf_81_148 | unfold mf_81_149); try simp (disch := omega) only [ev_S, ev_P, ↓reduceIte, Nat.reduceEqDiff, Nat.reduceLeDiff, Nat.reduceAdd, Nat.reduceMul, Nat.reduceSub, reduceCtorEq, l32_0, l32_1, l32_2, l32_3, l32_4, l32_47, l32_166300, kd, zz, szV])
    · have hi : j < r.length := by omega
      have ia := c_intAt (N := N) (X := X) b3 b2 hi
      have ja := L2.2.2 j hi
      refine ⟨r[j], ?_, ?_⟩
      · repeat ((first | unfold cf_16_87 | unfold cf_16_92 | unfold cf_16_96 | unfold cf_16_100 | unfold cf_16_110 | unfold cf_16_113 | unfold cf_16_123 | unfold cf_16_126 | unfold cf_16_127); try simp (disch := omega) only [ev_S, ev_C, ↓reduceIte, Nat.reduceEqDiff, Nat.reduceLeDiff, Nat.reduceAdd, Nat.reduceMul, Nat.reduceSub, reduceCtorEq, l32_0, l32_1, l32_2, l32_3, l32_4, kv, e2, sz, szV, ia])
      · repeat ((first | unfold mf_81_107 | unfold mf_81_120 | unfold mf_81_124 | unfold mf_81_131 | unfold mf_81_134 | unfold mf_81_148 | unfold mf_81_149); try simp (disch := omega) only [ev_S, ev_P, ↓reduceIte, Nat.reduceEqDiff, Nat.reduceLeDiff, Nat.reduceAdd, Nat.reduceMul, Nat.reduceSub, reduceCtorEq, l32_0, l32_1, l32_2, l32_3, l32_4, l32_47, l32_166300, kd, zz, szV, ja])
set_option maxHeartbeats 4000000 in
theorem p_cell (hN : 170000 ≤ N) (h : iS S σ0 k μ t s) (hH : iH t) (a i jj : Int32) : ∃ t', ∃ v : Int32, cf_16 N X a i jj t = some (t', .inl (some (.int v))) ∧ mf_81 N a i jj s = some (s, some (.int v)) ∧ rfr σ0 t t' ∧ iH t' := by
  have h' := h
  obtain ⟨h1, h2, h3, h4, ⟨h5, h50⟩, h6, h7, -⟩ := h'
  have h5a := h5.1
  rcases isSh a with ⟨j, hj, rfl, q1, q2⟩ | ⟨q1, q2⟩
  · have ck := c_kindOn (N := N) (X := X) h5 hj (Nat.le_trans (serO_len (fun y hy => h7 j y hy)) (by omega)) (h6 j hj).1
    have rk := r_kind (N := N) hj q2 (h6 j hj).2
    have q1 := q1 N X t
    obtain ⟨e1, g1⟩ | ⟨x, z, e1, g0, g1, g2⟩ | ⟨x, m, e1, g1, g2, g3, g4⟩ := slot3 (h6 j hj).2
    · rw [e1] at ck rk
      have e : kdO none = -Int32.ofNat 1 := rfl
      refine ⟨t, 0, ?_, ?_, rfr.rf, hH⟩
      · repeat ((first | unfold cf_16 | unfold cf_16_0 | unfold cf_16_4 | unfold cf_16_7 | unfold cf_16_15 | unfold cf_16_19 | unfold cf_16_21 | unfold cf_16_26 | unfold cf_16_33 | unfold cf_16_36 | unfold cf_16_41 | unfold cf_16_42 | unfold cf_16_46 | unfold cf_16_56 | unfold cf_16_59 | unfold cf_16_61 | unfold cf_16_71 | unfold cf_16_78 | unfold cf_16_81 | unfold cf_16_86 | unfold cf_16_87 | unfold cf_16_92 | unfold cf_16_96 | unfold cf_16_100 | unfold cf_16_110 | unfold cf_16_113 | unfold cf_16_123 | unfold cf_16_126 | unfold cf_16_127); try simp (disch := omega) only [ev_S, ev_C, ↓reduceIte, Nat.reduceEqDiff, Nat.reduceLeDiff, Nat.reduceAdd, Nat.reduceMul, Nat.reduceSub, reduceCtorEq, l32_0, l32_1, l32_2, l32_3, l32_4, l32_7, l32_12, q1, h2, h5a, ck, e])
      · repeat ((first | unfold mf_81 | unfold mf_81_0 | unfold mf_81_5 | unfold mf_81_12 | unfold mf_81_14 | unfold mf_81_26 | unfold mf_81_36 | unfold mf_81_40 | unfold mf_81_47 | unfold mf_81_50 | unfold mf_81_52 | unfold mf_81_58 | unfold mf_81_70 | unfold mf_81_76 | unfold mf_81_83 | unfold mf_81_86 | unfold mf_81_100 | unfold mf_81_107 | unfold mf_81_120 | unfold mf_81_124 | unfold mf_81_131 | unfold mf_81_134 | unfold mf_81_148 | unfold mf_81_149); try simp (disch := omega) only [ev_S, ev_P, ↓reduceIte, Nat.reduceEqDiff, Nat.reduceLeDiff, Nat.reduceAdd, Nat.reduceMul, Nat.reduceSub, reduceCtorEq, l32_0, l32_1, l32_2, l32_3, l32_4, l32_47, l32_2410, l32_166300, rk, e])
    · obtain ⟨t', v, u, b1, b2, b3, b4, b5⟩ := c_look (N := N) (X := X) hN h hH hj e1
      have b2 := cN_iff.mp b2
      rw [int_vw g0] at b2
      have b2 : v = tg 0 z := b2
      subst b2
      rw [e1] at ck rk
      have e : kdO (some x) = Int32.ofNat 0 := by
        have := (h6 j hj).2.hd
        rw [g1, e1] at this
        exact this.symm
      have kk := c_kindOf (N := N) (X := X) (t := t') (k := 0) (a := z)
      have ll := c_lowOf (N := N) (X := X) (t := t') (k := 0) (a := z)
      refine ⟨t', z, ?_, ?_, b4, b3.iH⟩
      · have b1 : cf_251 N X (Int32.ofNat j) t = some (t', .inl (some (.long (tg (Int32.ofNat 0) z)))) := b1
        have kk : cf_255 N X (tg (Int32.ofNat 0) z) t' = _ := kk
        have ll : cf_256 N X (tg (Int32.ofNat 0) z) t' = _ := ll
        repeat ((first | unfold cf_16 | unfold cf_16_0 | unfold cf_16_4 | unfold cf_16_7 | unfold cf_16_15 | unfold cf_16_19 | unfold cf_16_21 | unfold cf_16_26 | unfold cf_16_33 | unfold cf_16_36 | unfold cf_16_41 | unfold cf_16_42 | unfold cf_16_46 | unfold cf_16_56 | unfold cf_16_59 | unfold cf_16_61 | unfold cf_16_71 | unfold cf_16_78 | unfold cf_16_81 | unfold cf_16_86 | unfold cf_16_87 | unfold cf_16_92 | unfold cf_16_96 | unfold cf_16_100 | unfold cf_16_110 | unfold cf_16_113 | unfold cf_16_123 | unfold cf_16_126 | unfold cf_16_127); try simp (disch := omega) only [ev_S, ev_C, ↓reduceIte, Nat.reduceEqDiff, Nat.reduceLeDiff, Nat.reduceAdd, Nat.reduceMul, Nat.reduceSub, reduceCtorEq, l32_0, l32_1, l32_2, l32_3, l32_4, l32_7, l32_12, q1, h2, h5a, ck, e, b1, kk, ll])
      · repeat ((first | unfold mf_81 | unfold mf_81_0 | unfold mf_81_5 | unfold mf_81_12 | unfold mf_81_14 | unfold mf_81_26 | unfold mf_81_36 | unfold mf_81_40 | unfold mf_81_47 | unfold mf_81_50 | unfold mf_81_52 | unfold mf_81_58 | unfold mf_81_70 | unfold mf_81_76 | unfold mf_81_83 | unfold mf_81_86 | unfold mf_81_100 | unfold mf_81_107 | unfold mf_81_120 | unfold mf_81_124 | unfold mf_81_131 | unfold mf_81_134 | unfold mf_81_148 | unfold mf_81_149); try simp (disch := omega) only [ev_S, ev_P, ↓reduceIte, Nat.reduceEqDiff, Nat.reduceLeDiff, Nat.reduceAdd, Nat.reduceMul, Nat.reduceSub, reduceCtorEq, l32_0, l32_1, l32_2, l32_3, l32_4, l32_47, l32_2410, l32_166300, rk, e, g2])
    · obtain ⟨t', v, u, b1, b2, b3, b4, b5⟩ := c_look (N := N) (X := X) hN h hH hj e1
      have sz := c_size (N := N) (X := X) b3 b2
      have kv := c_kind (N := N) (X := X) b2
      obtain ⟨L1, L2⟩ := LayN_iff.mp g4
      have kd := L2.kd
      have b2 := cN_iff.mp b2
      have hw := vw_wf ⟨4, x⟩ (h7 j x e1)
      have hc : 2410 * j + wV wn (vw ⟨4, x⟩) ≤ 166300 := by
        have := (L1 (2410 * j + wV wn (vw ⟨4, x⟩) - 1) (by omega) (by omega)).2
        omega
      have zz := r_size (N := N) L2 hc
      rw [g3] at kv
      rw [e1] at ck rk
      have e : kdO (some x) = Int32.ofNat (m + 1) := by
        have := (h6 j hj).2.hd
        rw [g1, e1] at this
        exact this.symm
      generalize vw ⟨4, x⟩ = V at *
      have hz9 : szV V ≤ 64 := by
        obtain y | r | q | w := V
        · exact Nat.zero_le _
        · exact hw
        · exact Nat.le_trans hw.1 (by omega)
        · exact Nat.le_trans hw.1 (by omega)
      rcases ixi i with rfl | ⟨c1, c2⟩ | ⟨i, i1, rfl⟩
      · refine ⟨t', 0, ?_, ?_, b4, b3.iH⟩
        · repeat ((first | unfold cf_16 | unfold cf_16_0 | unfold cf_16_4 | unfold cf_16_7 | unfold cf_16_15 | unfold cf_16_19 | unfold cf_16_21 | unfold cf_16_26 | unfold cf_16_33 | unfold cf_16_36 | unfold cf_16_41 | unfold cf_16_42 | unfold cf_16_46 | unfold cf_16_56 | unfold cf_16_59 | unfold cf_16_61 | unfold cf_16_71 | unfold cf_16_78 | unfold cf_16_81 | unfold cf_16_86 | unfold cf_16_87 | unfold cf_16_92 | unfold cf_16_96 | unfold cf_16_100 | unfold cf_16_110 | unfold cf_16_113 | unfold cf_16_123 | unfold cf_16_126 | unfold cf_16_127); try simp (disch := omega) only [ev_S, ev_C, ↓reduceIte, Nat.reduceEqDiff, Nat.reduceLeDiff, Nat.reduceAdd, Nat.reduceMul, Nat.reduceSub, reduceCtorEq, l32_0, l32_1, l32_2, l32_3, l32_4, l32_7, l32_12, q1, h2, h5a, ck, e, b1, kv])
        · repeat ((first | unfold mf_81 | unfold mf_81_0 | unfold mf_81_5 | unfold mf_81_12 | unfold mf_81_14 | unfold mf_81_26 | unfold mf_81_36 | unfold mf_81_40 | unfold mf_81_47 | unfold mf_81_50 | unfold mf_81_52 | unfold mf_81_58 | unfold mf_81_70 | unfold mf_81_76 | unfold mf_81_83 | unfold mf_81_86 | unfold mf_81_100 | unfold mf_81_107 | unfold mf_81_120 | unfold mf_81_124 | unfold mf_81_131 | unfold mf_81_134 | unfold mf_81_148 | unfold mf_81_149); try simp (disch := omega) only [ev_S, ev_P, ↓reduceIte, Nat.reduceEqDiff, Nat.reduceLeDiff, Nat.reduceAdd, Nat.reduceMul, Nat.reduceSub, reduceCtorEq, l32_0, l32_1, l32_2, l32_3, l32_4, l32_47, l32_2410, l32_166300, rk, e])
      · have c1 : ¬ i = -Int32.ofNat 1 := c1
        have c2 : i < Int32.ofNat 0 := c2
        refine ⟨t', 0, ?_, ?_, b4, b3.iH⟩
        · repeat ((first | unfold cf_16 | unfold cf_16_0 | unfold cf_16_4 | unfold cf_16_7 | unfold cf_16_15 | unfold cf_16_19 | unfold cf_16_21 | unfold cf_16_26 | unfold cf_16_33 | unfold cf_16_36 | unfold cf_16_41 | unfold cf_16_42 | unfold cf_16_46 | unfold cf_16_56 | unfold cf_16_59 | unfold cf_16_61 | unfold cf_16_71 | unfold cf_16_78 | unfold cf_16_81 | unfold cf_16_86 | unfold cf_16_87 | unfold cf_16_92 | unfold cf_16_96 | unfold cf_16_100 | unfold cf_16_110 | unfold cf_16_113 | unfold cf_16_123 | unfold cf_16_126 | unfold cf_16_127); try simp (disch := omega) only [ev_S, ev_C, ↓reduceIte, Nat.reduceEqDiff, Nat.reduceLeDiff, Nat.reduceAdd, Nat.reduceMul, Nat.reduceSub, reduceCtorEq, l32_0, l32_1, l32_2, l32_3, l32_4, l32_7, l32_12, q1, h2, h5a, ck, e, b1, kv, c2])
        · repeat ((first | unfold mf_81 | unfold mf_81_0 | unfold mf_81_5 | unfold mf_81_12 | unfold mf_81_14 | unfold mf_81_26 | unfold mf_81_36 | unfold mf_81_40 | unfold mf_81_47 | unfold mf_81_50 | unfold mf_81_52 | unfold mf_81_58 | unfold mf_81_70 | unfold mf_81_76 | unfold mf_81_83 | unfold mf_81_86 | unfold mf_81_100 | unfold mf_81_107 | unfold mf_81_120 | unfold mf_81_124 | unfold mf_81_131 | unfold mf_81_134 | unfold mf_81_148 | unfold mf_81_149); try simp (disch := omega) only [ev_S, ev_P, ↓reduceIte, Nat.reduceEqDiff, Nat.reduceLeDiff, Nat.reduceAdd, Nat.reduceMul, Nat.reduceSub, reduceCtorEq, l32_0, l32_1, l32_2, l32_3, l32_4, l32_47, l32_2410, l32_166300, rk, e, c2])
      · by_cases c3 : szV V ≤ i
        · refine ⟨t', 0, ?_, ?_, b4, b3.iH⟩
          · repeat ((first | unfold cf_16 | unfold cf_16_0 | unfold cf_16_4 | unfold cf_16_7 | unfold cf_16_15 | unfold cf_16_19 | unfold cf_16_21 | unfold cf_16_26 | unfold cf_16_33 | unfold cf_16_36 | unfold cf_16_41 | unfold cf_16_42 | unfold cf_16_46 | unfold cf_16_56 | unfold cf_16_59 | unfold cf_16_61 | unfold cf_16_71 | unfold cf_16_78 | unfold cf_16_81 | unfold cf_16_86 | unfold cf_16_87 | unfold cf_16_92 | unfold cf_16_96 | unfold cf_16_100 | unfold cf_16_110 | unfold cf_16_113 | unfold cf_16_123 | unfold cf_16_126 | unfold cf_16_127); try simp (disch := omega) only [ev_S, ev_C, ↓reduceIte, Nat.reduceEqDiff, Nat.reduceLeDiff, Nat.reduceAdd, Nat.reduceMul, Nat.reduceSub, reduceCtorEq, l32_0, l32_1, l32_2, l32_3, l32_4, l32_7, l32_12, q1, h2, h5a, ck, e, b1, kv, sz])
          · repeat ((first | unfold mf_81 | unfold mf_81_0 | unfold mf_81_5 | unfold mf_81_12 | unfold mf_81_14 | unfold mf_81_26 | unfold mf_81_36 | unfold mf_81_40 | unfold mf_81_47 | unfold mf_81_50 | unfold mf_81_52 | unfold mf_81_58 | unfold mf_81_70 | unfold mf_81_76 | unfold mf_81_83 | unfold mf_81_86 | unfold mf_81_100 | unfold mf_81_107 | unfold mf_81_120 | unfold mf_81_124 | unfold mf_81_131 | unfold mf_81_134 | unfold mf_81_148 | unfold mf_81_149); try simp (disch := omega) only [ev_S, ev_P, ↓reduceIte, Nat.reduceEqDiff, Nat.reduceLeDiff, Nat.reduceAdd, Nat.reduceMul, Nat.reduceSub, reduceCtorEq, l32_0, l32_1, l32_2, l32_3, l32_4, l32_47, l32_2410, l32_166300, rk, e, zz])
        · obtain y | r | q | ⟨n, l⟩ := V
          · have := ofNat_inj (a := 0) (by omega) (by omega) g3
            omega
          · have em : 1 = m + 1 := ofNat_inj (a := 1) (by omega) (by omega) g3
            have em : m = 0 := by omega
            subst em
            have hi : i < r.length := by
              have : ¬ r.length ≤ i := c3
              omega
            have hz8 : r.length ≤ 64 := hz9
            have p1 := c_partR (N := N) (X := X) b3 b2 hi
            have kk := c_kindOf (N := N) (X := X) (t := t') (k := 0) (a := r[i])
            have ll := c_lowOf (N := N) (X := X) (t := t') (k := 0) (a := r[i])
            have kk : cf_255 N X (tg (Int32.ofNat 0) r[i]) t' = _ := kk
            have ll : cf_256 N X (tg (Int32.ofNat 0) r[i]) t' = _ := ll
            have ja : s.2.2.1 47 (2410 * j + 2 + i) = r[i] := L2.2.2 i hi
            refine ⟨t', r[i], ?_, ?_, b4, b3.iH⟩
            · repeat ((first | unfold cf_16 | unfold cf_16_0 | unfold cf_16_4 | unfold cf_16_7 | unfold cf_16_15 | unfold cf_16_19 | unfold cf_16_21 | unfold cf_16_26 | unfold cf_16_33 | unfold cf_16_36 | unfold cf_16_41 | unfold cf_16_42 | unfold cf_16_46 | unfold cf_16_56 | unfold cf_16_59 | unfold cf_16_61 | unfold cf_16_71 | unfold cf_16_78 | unfold cf_16_81 | unfold cf_16_86 | unfold cf_16_87 | unfold cf_16_92 | unfold cf_16_96 | unfold cf_16_100 | unfold cf_16_110 | unfold cf_16_113 | unfold cf_16_123 | unfold cf_16_126 | unfold cf_16_127); try simp (disch := omega) only [ev_S, ev_C, ↓reduceIte, Nat.reduceEqDiff, Nat.reduceLeDiff, Nat.reduceAdd, Nat.reduceMul, Nat.reduceSub, reduceCtorEq, l32_0, l32_1, l32_2, l32_3, l32_4, l32_7, l32_12, q1, h2, h5a, ck, e, b1, sz, szV, kv, p1, kk, ll])
            · repeat ((first | unfold mf_81 | unfold mf_81_0 | unfold mf_81_5 | unfold mf_81_12 | unfold mf_81_14 | unfold mf_81_26 | unfold mf_81_36 | unfold mf_81_40 | unfold mf_81_47 | unfold mf_81_50 | unfold mf_81_52 | unfold mf_81_58 | unfold mf_81_70 | unfold mf_81_76 | unfold mf_81_83 | unfold mf_81_86 | unfold mf_81_100 | unfold mf_81_107 | unfold mf_81_120 | unfold mf_81_124 | unfold mf_81_131 | unfold mf_81_134 | unfold mf_81_148 | unfold mf_81_149); try simp (disch := omega) only [ev_S, ev_P, ↓reduceIte, Nat.reduceEqDiff, Nat.reduceLeDiff, Nat.reduceAdd, Nat.reduceMul, Nat.reduceSub, reduceCtorEq, l32_0, l32_1, l32_2, l32_3, l32_4, l32_47, l32_2410, l32_166300, rk, e, zz, szV, ja])
          · have em : 2 = m + 1 := ofNat_inj (a := 2) (by omega) (by omega) g3
            have em : m = 1 := by omega
            subst em
            have hi : i < q.length := by
              have : ¬ q.length ≤ i := c3
              omega
            have hz8 : q.length ≤ 64 := hz9
            obtain ⟨v', p1, p2⟩ := c_partT (N := N) (X := X) b3 b2 hi
            have pk := c_kind (N := N) (X := X) p2
            have pk : cf_255 N X v' t' = some (t', .inl (some (.int (Int32.ofNat 1)))) := pk
            obtain ⟨c, o1, o2⟩ := r_partT (N := N) L2 hc hi
            obtain ⟨M1, M2⟩ := LayN_iff.mp o2
            have kd2 := M2.kd
            have hc2 : c + wV wn (vw (nR q[i])) ≤ 166300 := by
              have := (M1 (c + wV wn (vw (nR q[i])) - 1) (by omega) (by omega)).2
              omega
            obtain ⟨z, y1, y2⟩ := cell_row (N := N) (X := X) (r := q[i]) (hw.2.2 _ (List.getElem_mem hi)) b3 p2 M2 hc2 jj
            refine ⟨t', z, ?_, ?_, b4, b3.iH⟩
            · rw [← y1]
              repeat ((first | unfold cf_16_0 | unfold cf_16_4 | unfold cf_16_7 | unfold cf_16_15 | unfold cf_16_21 | unfold cf_16_26 | unfold cf_16_33 | unfold cf_16_42 | unfold cf_16_46 | unfold cf_16_56 | unfold cf_16_61 | unfold cf_16_71 | unfold cf_16_78 | unfold cf_16 | unfold cf_16_0 | unfold cf_16_4 | unfold cf_16_7 | unfold cf_16_15 | unfold cf_16_19 | unfold cf_16_21 | unfold cf_16_26 | unfold cf_16_33 | unfold cf_16_36 | unfold cf_16_41 | unfold cf_16_42 | unfold cf_16_46 | unfold cf_16_56 | unfold cf_16_59 | unfold cf_16_61 | unfold cf_16_71 | unfold cf_16_78 | unfold cf_16_81 | unfold cf_16_86 | unfold cf_16_87 | unfold cf_16_92 | unfold cf_16_96 | unfold cf_16_100 | unfold cf_16_110 | unfold cf_16_113 | unfold cf_16_123 | unfold cf_16_126 | unfold cf_16_127); try simp (disch := omega) only [ev_S, ev_C, ↓reduceIte, Nat.reduceEqDiff, Nat.reduceLeDiff, Nat.reduceAdd, Nat.reduceMul, Nat.reduceSub, reduceCtorEq, l32_0, l32_1, l32_2, l32_3, l32_4, l32_7, l32_12, q1, h2, h5a, ck, e, b1, sz, szV, kv, p1, pk])
            · rw [← y2]
              repeat ((first | unfold mf_81_0 | unfold mf_81_5 | unfold mf_81_14 | unfold mf_81_36 | unfold mf_81_40 | unfold mf_81_47 | unfold mf_81_52 | unfold mf_81_70 | unfold mf_81_76 | unfold mf_81_83 | unfold mf_81_100 | unfold mf_81 | unfold mf_81_0 | unfold mf_81_5 | unfold mf_81_12 | unfold mf_81_14 | unfold mf_81_26 | unfold mf_81_36 | unfold mf_81_40 | unfold mf_81_47 | unfold mf_81_50 | unfold mf_81_52 | unfold mf_81_58 | unfold mf_81_70 | unfold mf_81_76 | unfold mf_81_83 | unfold mf_81_86 | unfold mf_81_100 | unfold mf_81_107 | unfold mf_81_120 | unfold mf_81_124 | unfold mf_81_131 | unfold mf_81_134 | unfold mf_81_148 | unfold mf_81_149); try simp (disch := omega) only [ev_S, ev_P, ↓reduceIte, Nat.reduceEqDiff, Nat.reduceLeDiff, Nat.reduceAdd, Nat.reduceMul, Nat.reduceSub, reduceCtorEq, l32_0, l32_1, l32_2, l32_3, l32_4, l32_47, l32_2410, l32_166300, rk, e, zz, szV, o1])
          · have em : 3 = m + 1 := ofNat_inj (a := 3) (by omega) (by omega) g3
            have em : m = 2 := by omega
            subst em
            have hi : i < l.length := by
              have : ¬ l.length ≤ i := c3
              omega
            have hz8 : l.length ≤ 64 := hz9
            obtain ⟨v', p1, p2⟩ := c_partP (N := N) (X := X) b3 b2 hi
            have pk := c_kind (N := N) (X := X) p2
            have ii := r_isInt (N := N) L2 hc hi
            have iv : intT n l[i] = intV (vw ⟨n, l[i]⟩) := vw_int ⟨n, l[i]⟩
            have hwi := vw_wf ⟨n, l[i]⟩ (hw.2.2 _ (List.getElem_mem hi))
            cases hA : intT n l[i] with
            | some z =>
              rw [hA] at ii
              have ii : mf_293 N (Int32.ofNat (2410 * j)) (Int32.ofNat i) s = some (s, some (.int 1)) := ii
              have ev := intV_s (iv.symm.trans hA)
              have p3 := cN_iff.mp p2
              rw [ev] at p3 pk
              have p3 : v' = tg 0 z := p3
              subst p3
              have p1 : cf_129 N X v (Int32.ofNat i) t' = some (t', .inl (some (.long (tg (Int32.ofNat 0) z)))) := p1
              have ll := c_lowOf (N := N) (X := X) (t := t') (k := 0) (a := z)
              have ll : cf_256 N X (tg (Int32.ofNat 0) z) t' = _ := ll
              have pk : cf_255 N X (tg (Int32.ofNat 0) z) t' = some (t', .inl (some (.int (Int32.ofNat 0)))) := pk
              have ja := ((L2.2.2 i hi).1 z hA).2
              refine ⟨t', z, ?_, ?_, b4, b3.iH⟩
              · repeat ((first | unfold cf_16 | unfold cf_16_0 | unfold cf_16_4 | unfold cf_16_7 | unfold cf_16_15 | unfold cf_16_19 | unfold cf_16_21 | unfold cf_16_26 | unfold cf_16_33 | unfold cf_16_36 | unfold cf_16_41 | unfold cf_16_42 | unfold cf_16_46 | unfold cf_16_56 | unfold cf_16_59 | unfold cf_16_61 | unfold cf_16_71 | unfold cf_16_78 | unfold cf_16_81 | unfold cf_16_86 | unfold cf_16_87 | unfold cf_16_92 | unfold cf_16_96 | unfold cf_16_100 | unfold cf_16_110 | unfold cf_16_113 | unfold cf_16_123 | unfold cf_16_126 | unfold cf_16_127); try simp (disch := omega) only [ev_S, ev_C, ↓reduceIte, Nat.reduceEqDiff, Nat.reduceLeDiff, Nat.reduceAdd, Nat.reduceMul, Nat.reduceSub, reduceCtorEq, l32_0, l32_1, l32_2, l32_3, l32_4, l32_7, l32_12, q1, h2, h5a, ck, e, b1, sz, szV, kv, p1, pk, ll])
              · repeat ((first | unfold mf_81 | unfold mf_81_0 | unfold mf_81_5 | unfold mf_81_12 | unfold mf_81_14 | unfold mf_81_26 | unfold mf_81_36 | unfold mf_81_40 | unfold mf_81_47 | unfold mf_81_50 | unfold mf_81_52 | unfold mf_81_58 | unfold mf_81_70 | unfold mf_81_76 | unfold mf_81_83 | unfold mf_81_86 | unfold mf_81_100 | unfold mf_81_107 | unfold mf_81_120 | unfold mf_81_124 | unfold mf_81_131 | unfold mf_81_134 | unfold mf_81_148 | unfold mf_81_149); try simp (disch := omega) only [ev_S, ev_P, ↓reduceIte, Nat.reduceEqDiff, Nat.reduceLeDiff, Nat.reduceAdd, Nat.reduceMul, Nat.reduceSub, reduceCtorEq, l32_0, l32_1, l32_2, l32_3, l32_4, l32_47, l32_2410, l32_166300, rk, e, zz, szV, ii, ja])
            | none =>
              rw [hA] at ii
              have ii : mf_293 N (Int32.ofNat (2410 * j)) (Int32.ofNat i) s = some (s, some (.int 0)) := ii
              obtain ⟨c, o1, o2⟩ := r_partP (N := N) L2 hc hi hA
              obtain ⟨M1, M2⟩ := LayN_iff.mp o2
              have kd2 := M2.kd
              have hc2 : c + wV wn (vw ⟨n, l[i]⟩) ≤ 166300 := by
                have := (M1 (c + wV wn (vw ⟨n, l[i]⟩) - 1) (by omega) (by omega)).2
                omega
              have kd3 := kd2.1
              have p3 := cN_iff.mp p2
              have hn := intV_n (iv.symm.trans hA)
              have hn : ¬ kdV (vw ⟨n, l[i]⟩) = Int32.ofNat 0 := hn
              by_cases k1 : kdV (vw ⟨n, l[i]⟩) = 1
              · have ev := kd1 (x := ⟨n, l[i]⟩) k1
                rw [ev] at M2 hc2 hwi
                obtain ⟨z, y1, y2⟩ := cell_row (N := N) (X := X) (r := rvN ⟨n, l[i]⟩) hwi b3 ((cN_vw (y := nR (rvN ⟨n, l[i]⟩)) ev).mp p2) M2 hc2 jj
                have pk : cf_255 N X v' t' = some (t', .inl (some (.int (Int32.ofNat 1)))) := by
                  rw [pk, k1]
                  rfl
                refine ⟨t', z, ?_, ?_, b4, b3.iH⟩
                · rw [← y1]
                  repeat ((first | unfold cf_16_0 | unfold cf_16_4 | unfold cf_16_7 | unfold cf_16_15 | unfold cf_16_21 | unfold cf_16_26 | unfold cf_16_33 | unfold cf_16_42 | unfold cf_16_46 | unfold cf_16_56 | unfold cf_16_61 | unfold cf_16_71 | unfold cf_16_78 | unfold cf_16 | unfold cf_16_0 | unfold cf_16_4 | unfold cf_16_7 | unfold cf_16_15 | unfold cf_16_19 | unfold cf_16_21 | unfold cf_16_26 | unfold cf_16_33 | unfold cf_16_36 | unfold cf_16_41 | unfold cf_16_42 | unfold cf_16_46 | unfold cf_16_56 | unfold cf_16_59 | unfold cf_16_61 | unfold cf_16_71 | unfold cf_16_78 | unfold cf_16_81 | unfold cf_16_86 | unfold cf_16_87 | unfold cf_16_92 | unfold cf_16_96 | unfold cf_16_100 | unfold cf_16_110 | unfold cf_16_113 | unfold cf_16_123 | unfold cf_16_126 | unfold cf_16_127); try simp (disch := omega) only [ev_S, ev_C, ↓reduceIte, Nat.reduceEqDiff, Nat.reduceLeDiff, Nat.reduceAdd, Nat.reduceMul, Nat.reduceSub, reduceCtorEq, l32_0, l32_1, l32_2, l32_3, l32_4, l32_7, l32_12, q1, h2, h5a, ck, e, b1, sz, szV, kv, p1, pk])
                · rw [← y2]
                  repeat ((first | unfold mf_81_0 | unfold mf_81_5 | unfold mf_81_14 | unfold mf_81_36 | unfold mf_81_40 | unfold mf_81_47 | unfold mf_81_52 | unfold mf_81_70 | unfold mf_81_76 | unfold mf_81_83 | unfold mf_81_100 | unfold mf_81 | unfold mf_81_0 | unfold mf_81_5 | unfold mf_81_12 | unfold mf_81_14 | unfold mf_81_26 | unfold mf_81_36 | unfold mf_81_40 | unfold mf_81_47 | unfold mf_81_50 | unfold mf_81_52 | unfold mf_81_58 | unfold mf_81_70 | unfold mf_81_76 | unfold mf_81_83 | unfold mf_81_86 | unfold mf_81_100 | unfold mf_81_107 | unfold mf_81_120 | unfold mf_81_124 | unfold mf_81_131 | unfold mf_81_134 | unfold mf_81_148 | unfold mf_81_149); try simp (disch := omega) only [ev_S, ev_P, ↓reduceIte, Nat.reduceEqDiff, Nat.reduceLeDiff, Nat.reduceAdd, Nat.reduceMul, Nat.reduceSub, reduceCtorEq, l32_0, l32_1, l32_2, l32_3, l32_4, l32_47, l32_2410, l32_166300, rk, e, zz, szV, ii, o1])
              · have k1 : ¬ kdV (vw ⟨n, l[i]⟩) = Int32.ofNat 1 := k1
                refine ⟨t', 0, ?_, ?_, b4, b3.iH⟩
                · repeat ((first | unfold cf_16 | unfold cf_16_0 | unfold cf_16_4 | unfold cf_16_7 | unfold cf_16_15 | unfold cf_16_19 | unfold cf_16_21 | unfold cf_16_26 | unfold cf_16_33 | unfold cf_16_36 | unfold cf_16_41 | unfold cf_16_42 | unfold cf_16_46 | unfold cf_16_56 | unfold cf_16_59 | unfold cf_16_61 | unfold cf_16_71 | unfold cf_16_78 | unfold cf_16_81 | unfold cf_16_86 | unfold cf_16_87 | unfold cf_16_92 | unfold cf_16_96 | unfold cf_16_100 | unfold cf_16_110 | unfold cf_16_113 | unfold cf_16_123 | unfold cf_16_126 | unfold cf_16_127); try simp (disch := omega) only [ev_S, ev_C, ↓reduceIte, Nat.reduceEqDiff, Nat.reduceLeDiff, Nat.reduceAdd, Nat.reduceMul, Nat.reduceSub, reduceCtorEq, l32_0, l32_1, l32_2, l32_3, l32_4, l32_7, l32_12, q1, h2, h5a, ck, e, b1, sz, szV, kv, p1, pk, hn, k1])
                · repeat ((first | unfold mf_81 | unfold mf_81_0 | unfold mf_81_5 | unfold mf_81_12 | unfold mf_81_14 | unfold mf_81_26 | unfold mf_81_36 | unfold mf_81_40 | unfold mf_81_47 | unfold mf_81_50 | unfold mf_81_52 | unfold mf_81_58 | unfold mf_81_70 | unfold mf_81_76 | unfold mf_81_83 | unfold mf_81_86 | unfold mf_81_100 | unfold mf_81_107 | unfold mf_81_120 | unfold mf_81_124 | unfold mf_81_131 | unfold mf_81_134 | unfold mf_81_148 | unfold mf_81_149); try simp (disch := omega) only [ev_S, ev_P, ↓reduceIte, Nat.reduceEqDiff, Nat.reduceLeDiff, Nat.reduceAdd, Nat.reduceMul, Nat.reduceSub, reduceCtorEq, l32_0, l32_1, l32_2, l32_3, l32_4, l32_47, l32_2410, l32_166300, rk, e, zz, szV, ii, o1, kd3, k1])
  · refine ⟨t, 0, ?_, ?_, rfr.rf, hH⟩
    · have q1 := q1 N X t
      repeat ((first | unfold cf_16 | unfold cf_16_0 | unfold cf_16_4 | unfold cf_16_7 | unfold cf_16_15 | unfold cf_16_19 | unfold cf_16_21 | unfold cf_16_26 | unfold cf_16_33 | unfold cf_16_36 | unfold cf_16_41 | unfold cf_16_42 | unfold cf_16_46 | unfold cf_16_56 | unfold cf_16_59 | unfold cf_16_61 | unfold cf_16_71 | unfold cf_16_78 | unfold cf_16_81 | unfold cf_16_86 | unfold cf_16_87 | unfold cf_16_92 | unfold cf_16_96 | unfold cf_16_100 | unfold cf_16_110 | unfold cf_16_113 | unfold cf_16_123 | unfold cf_16_126 | unfold cf_16_127); try simp (disch := omega) only [ev_S, ev_C, ↓reduceIte, Nat.reduceEqDiff, Nat.reduceLeDiff, Nat.reduceAdd, Nat.reduceMul, Nat.reduceSub, reduceCtorEq, l32_0, l32_1, l32_2, l32_3, l32_4, l32_7, l32_12, q1])
    · have r1 := q2 N s
      have r2 : mf_79 N a s = some (s, some (.int (-1))) := by
        repeat ((first | unfold mf_79 | unfold mf_79_0 | unfold mf_79_4 | unfold mf_79_7 | unfold mf_79_20 | unfold mf_79_21); try simp (disch := omega) only [ev_S, ev_P, ↓reduceIte, Nat.reduceEqDiff, Nat.reduceLeDiff, Nat.reduceAdd, Nat.reduceMul, Nat.reduceSub, reduceCtorEq, l32_0, l32_1, l32_2, l32_3, l32_4, l32_47, l32_2410, l32_166300, r1])
      repeat ((first | unfold mf_81 | unfold mf_81_0 | unfold mf_81_5 | unfold mf_81_12 | unfold mf_81_14 | unfold mf_81_26 | unfold mf_81_36 | unfold mf_81_40 | unfold mf_81_47 | unfold mf_81_50 | unfold mf_81_52 | unfold mf_81_58 | unfold mf_81_70 | unfold mf_81_76 | unfold mf_81_83 | unfold mf_81_86 | unfold mf_81_100 | unfold mf_81_107 | unfold mf_81_120 | unfold mf_81_124 | unfold mf_81_131 | unfold mf_81_134 | unfold mf_81_148 | unfold mf_81_149); try simp (disch := omega) only [ev_S, ev_P, ↓reduceIte, Nat.reduceEqDiff, Nat.reduceLeDiff, Nat.reduceAdd, Nat.reduceMul, Nat.reduceSub, reduceCtorEq, l32_0, l32_1, l32_2, l32_3, l32_4, l32_47, l32_2410, l32_166300, r2])
end SCG
end
-- ### 78.pure.lean.txt
section
/-! ===== PURE: longs that are no less than 0; numbers in digits ===== -/
theorem i64t {m : Nat} (h : m < 9223372036854775808) : (Int64.ofNat m).toInt = (m : Int) := Int64.toInt_ofNat_of_lt h
theorem i64div {a b : Nat} (ha : a < 9223372036854775808) (hb : b < 9223372036854775808) : Int64.ofNat a / Int64.ofNat b = Int64.ofNat (a / b) := by
  have hq : a / b < 9223372036854775808 := Nat.lt_of_le_of_lt (Nat.div_le_self a b) ha
  refine Int64.toInt.inj ?_
  rw [Int64.toInt_div_of_ne_right _ _ (fun q => ?_), i64t ha, i64t hb, i64t hq]
  · exact (Int.ofNat_tdiv a b).symm ▸ rfl
  · have := congrArg Int64.toInt q
    rw [i64t hb] at this
    have e : (-1 : Int64).toInt = -1 := by decide
    omega
theorem i64eq {a b : Nat} (ha : a < 9223372036854775808) (hb : b < 9223372036854775808) : (Int64.ofNat a = Int64.ofNat b) ↔ a = b := by
  constructor
  · intro h
    have := congrArg Int64.toInt h
    rw [i64t ha, i64t hb] at this
    omega
  · intro h
    rw [h]
theorem i64lt {a b : Nat} (ha : a < 9223372036854775808) (hb : b < 9223372036854775808) : (Int64.ofNat a < Int64.ofNat b) ↔ a < b := by
  rw [Int64.lt_iff_toInt_lt, i64t ha, i64t hb]
  omega
theorem lg_le {a b : Nat} (ha : a < 9223372036854775808) (hb : b < 9223372036854775808) : (lg_cmp (Int64.ofNat a) (Int64.ofNat b) ≤ Int32.ofNat 0) = (a ≤ b) := by
  unfold lg_cmp
  apply propext
  by_cases c : b < a
  · rw [if_pos (show Int64.ofNat a > Int64.ofNat b from (i64lt hb ha).mpr c)]
    exact ⟨fun q => absurd q (by decide), fun q => by omega⟩
  · rw [if_neg (fun q => c ((i64lt hb ha).mp q))]
    refine ⟨fun _ => by omega, fun _ => ?_⟩
    split
    · decide
    · decide
theorem i64of32 {m : Nat} (h : m < 2147483648) : Int32.toInt64 (Int32.ofNat m) = Int64.ofNat m := by
  refine Int64.toInt.inj ?_
  rw [Int32.toInt_toInt64, i32t h, i64t (by omega)]
/-- how great it is -/
def wN (z : Int32) : Nat := z.toInt.natAbs
theorem wN_le (z : Int32) : wN z ≤ 2147483648 := by
  have h1 := Int32.toInt_lt z
  have h2 := Int32.le_toInt z
  unfold wN
  omega
theorem neg64 {z : Int32} (h : z < 0) : -(Int32.toInt64 z) = Int64.ofNat (wN z) := by
  have hw := wN_le z
  have h1 := Int32.lt_iff_toInt_lt.mp h
  have h0 : (0 : Int32).toInt = 0 := by decide
  have h2 := Int32.le_toInt z
  refine Int64.toInt.inj ?_
  have e : (2 : Int) ^ 31 = 2147483648 := by decide
  have e6 : (2 : Nat) ^ 64 = 18446744073709551616 := by decide
  rw [i64t (by omega), Int64.toInt_neg, Int32.toInt_toInt64, e6, Int.bmod_eq_of_le (by omega) (by omega)]
  unfold wN
  omega
theorem pos64 {z : Int32} (h : ¬ z < 0) : Int32.toInt64 z = Int64.ofNat (wN z) := by
  obtain ⟨m, h1, rfl⟩ := i32of h
  rw [i64of32 h1]
  unfold wN
  rw [i32t h1]
  rfl
/-- its digits, the least first -/
def dg (w : Nat) : Int32 := Int32.ofNat (48 + w % 10)
def dgL : Nat → Nat → List Int32
  | 0, w => [dg w]
  | f + 1, w => if w < 10 then [dg w] else dg w :: dgL f (w / 10)
def dgP (w : Nat) : Nat → List Int32
  | 0 => [dg w]
  | i + 1 => dg (w / 10 ^ (i + 1)) :: dgP w i
theorem dgP_10 (w : Nat) : ∀ i, dgP w (i + 1) = dgP (w / 10) i ++ [dg w]
  | 0 => by
    show [dg (w / 10 ^ (0 + 1)), dg w] = [dg (w / 10), dg w]
    rw [Nat.zero_add, Nat.pow_one]
  | i + 1 => by
    show dg (w / 10 ^ (i + 1 + 1)) :: dgP w (i + 1) = (dg (w / 10 / 10 ^ (i + 1)) :: dgP (w / 10) i) ++ [dg w]
    rw [dgP_10 w i, Nat.div_div_eq_div_mul, ← Nat.pow_succ']
    rfl
theorem dgL_len : ∀ f w, 1 ≤ (dgL f w).length ∧ (dgL f w).length ≤ f + 1
  | 0, w => ⟨Nat.le_refl _, Nat.le_refl _⟩
  | f + 1, w => by
    unfold dgL
    split
    · exact ⟨Nat.le_refl _, by show 1 ≤ f + 1 + 1; omega⟩
    · have := dgL_len f (w / 10)
      rw [List.length_cons]
      omega
theorem dgL_rev : ∀ f w, w < 10 ^ (f + 1) → (dgL f w).reverse = dgP w ((dgL f w).length - 1)
  | 0, w, h => rfl
  | f + 1, w, h => by
    unfold dgL
    split
    · rfl
    · have hl := dgL_len f (w / 10)
      rw [List.reverse_cons, List.length_cons, dgL_rev f (w / 10) (by
        rw [Nat.pow_succ] at h
        omega), Nat.add_sub_cancel]
      have e : (dgL f (w / 10)).length = ((dgL f (w / 10)).length - 1) + 1 := by omega
      generalize (dgL f (w / 10)).length - 1 = n at e
      rw [e, dgP_10]
/-- its first digit stands where w / by is no more than 9 -/
theorem dgL_top : ∀ f w, w < 10 ^ (f + 1) → w / 10 ^ ((dgL f w).length - 1) ≤ 9 ∧ ∀ j, j < (dgL f w).length - 1 → 9 < w / 10 ^ j
  | 0, w, h => by
    show w / 10 ^ 0 ≤ 9 ∧ _
    rw [Nat.pow_zero, Nat.div_one]
    refine ⟨by rw [Nat.zero_add, Nat.pow_one] at h; omega, fun j hj => ?_⟩
    have hj : j < 1 - 1 := hj
    omega
  | f + 1, w, h => by
    unfold dgL
    split
    · rename_i c
      show w / 10 ^ 0 ≤ 9 ∧ _
      rw [Nat.pow_zero, Nat.div_one]
      refine ⟨by omega, fun j hj => ?_⟩
      have hj : j < 1 - 1 := hj
      omega
    · rename_i c
      have hl := dgL_len f (w / 10)
      obtain ⟨h1, h2⟩ := dgL_top f (w / 10) (by
        rw [Nat.pow_succ] at h
        omega)
      rw [List.length_cons, Nat.add_sub_cancel]
      have e : (dgL f (w / 10)).length = ((dgL f (w / 10)).length - 1) + 1 := by omega
      generalize (dgL f (w / 10)).length - 1 = n at e h1 h2
      rw [e]
      rw [Nat.div_div_eq_div_mul, ← Nat.pow_succ'] at h1
      refine ⟨h1, fun j hj => ?_⟩
      cases j with
      | zero =>
        rw [Nat.pow_zero, Nat.div_one]
        omega
      | succ j =>
        have := h2 j (by omega)
        rw [Nat.div_div_eq_div_mul, ← Nat.pow_succ'] at this
        exact this
/-- an INT as it is told -/
def numL (z : Int32) : List Int32 := (if z < 0 then [45] else []) ++ (dgL 9 (wN z)).reverse
end
-- ### 79.pure.lean.txt
section
/-! ===== PURE: out, a byte and a number ===== -/
abbrev nb (c : Int32) : Int32 := vp_nar (zz_ty 2) (Int8.toInt32 (Int32.toInt8 c))
theorem nb_fits (c : Int32) : fits .byte (.int (nb c)) = true := nar_fits _
theorem nb_10 : ∀ d : Fin 10, nb (Int32.ofNat (48 + d.1)) = Int32.ofNat (48 + d.1) := by decide
theorem nb_dg (w : Nat) : nb (dg w) = dg w := nb_10 ⟨w % 10, Nat.mod_lt _ (by decide)⟩
/-- the lengths that the class's kept bytes may have -/
def kl (L : Nat) : Prop := L = 64 ∨ L = 128 ∨ L = 256 ∨ L = 512 ∨ L = 600
/-- the class's out: the bytes l -/
def cOut (t : cS) (l : List Int32) : Prop := kI t 45 1 = Int32.ofNat l.length ∧ (∀ i (hi : i < l.length), i < 600 → (kA t 46).2 i = l[i]) ∧ (∀ i, fits .byte (.int ((kA t 46).2 i)) = true) ∧ (l.length ≤ (kA t 46).1 ∨ (kA t 46).1 = 600) ∧ kl (kA t 46).1 ∧ (kA t 47).1 = 10 ∧ rmK t
def rOut (s : mS) (l : List Int32) : Prop := s.1 87 = Int32.ofNat l.length ∧ (∀ i (hi : i < l.length), i < 600 → s.2.2.1 86 i = l[i])
/-- what telling leaves -/
def ofr (t t' : cS) : Prop := (∀ k f, ¬ (k = 45 ∧ f = 1) → kI t' k f = kI t k f) ∧ kL t' = kL t ∧ kP t' = kP t ∧ (∀ k, k ≠ 46 → k ≠ 47 → k ≠ 111 → kA t' k = kA t k ∧ kB t' k = kB t k ∧ kD t' k = kD t k) ∧ kM t' = kM t ∧ kH t' = kH t ∧ kN t ≤ kN t' ∧ kN t' + pot t ≤ kN t + pot t' ∧ kQ t' + poq t ≤ kQ t + poq t'
theorem ofr.rf {t : cS} : ofr t t := ⟨fun _ _ _ => rfl, rfl, rfl, fun _ _ _ _ => ⟨rfl, rfl, rfl⟩, rfl, rfl, Nat.le_refl _, Nat.le_refl _, Nat.le_refl _⟩
theorem ofr.tr {t t1 t2 : cS} (h : ofr t t1) (g : ofr t1 t2) : ofr t t2 := by
  obtain ⟨a1, a2, a3, a4, a5, a6, a8, a9, a10⟩ := h
  obtain ⟨b1, b2, b3, b4, b5, b6, b8, b9, b10⟩ := g
  exact ⟨fun k f r => (b1 k f r).trans (a1 k f r), b2.trans a2, b3.trans a3, fun k r1 r2 r3 => ⟨(b4 k r1 r2 r3).1.trans (a4 k r1 r2 r3).1, (b4 k r1 r2 r3).2.1.trans (a4 k r1 r2 r3).2.1, (b4 k r1 r2 r3).2.2.trans (a4 k r1 r2 r3).2.2⟩, b5.trans a5, b6.trans a6, by omega, by omega, by omega⟩
abbrev oM (s s' : mS) : Prop := mfr (fun q => q = 87) (fun _ => False) (fun q => q = 86) (fun _ => False) s s'
section OUT
variable {N : Nat} {X : Nat → Option zz_C} {t : cS} {s : mS} {l : List Int32}
theorem get_app {v : Int32} {g : Nat → Int32} (h : ∀ i (hi : i < l.length), i < 600 → g i = l[i]) (hv : l.length < 600 → g l.length = v) : ∀ i (hi : i < (l ++ [v]).length), i < 600 → g i = (l ++ [v])[i] := fun i hi h6 => by
  rw [List.length_append] at hi
  have hi : i < l.length + 1 := hi
  by_cases c : i < l.length
  · rw [List.getElem_append_left c]
    exact h i c h6
  · have e : i = l.length := by omega
    subst e
    rw [hv h6, List.getElem_append_right (Nat.le_refl _)]
    simp only [Nat.sub_self, List.getElem_cons_zero]
theorem upd_fits {f : Nat → Int32} {i : Nat} {c : Int32} (h : ∀ i, fits .byte (.int (f i)) = true) : ∀ j, fits .byte (.int (upd f i (nb c) j)) = true := fun j => by
  unfold upd
  split
  · exact nb_fits c
  · exact h j
theorem fits0 : fits .byte (.int 0) = true := by decide
theorem c_says {c : Int32} (h : cOut t l) (hl : l.length < 2000000000) : ∃ t', cf_171 N X c t = some (t', .inl none) ∧ cOut t' (l ++ [nb c]) ∧ ofr t t' ∧ kA t' 47 = kA t 47 := by
  obtain ⟨h1, h2, h3, h4, h5, h6, h7⟩ := h
  have ll : (l ++ [nb c]).length = l.length + 1 := List.length_append
  by_cases c6 : 600 ≤ l.length
  · refine ⟨jI t 45 1 (Int32.ofNat (l.length + 1)), ?_, ⟨by rw [ll]; rfl, get_app h2 (fun q => by omega), h3, ?_, h5, h6, h7⟩, ⟨fun k f r => if_neg r, rfl, rfl, fun _ _ _ _ => ⟨rfl, rfl, rfl⟩, rfl, rfl, Nat.le_refl _, Nat.le_refl _, Nat.le_refl _⟩, rfl⟩
    · repeat ((first | unfold cf_171 | unfold cf_171_0 | unfold cf_171_10 | unfold cf_171_22 | unfold cf_171_45 | unfold cf_171_56); try simp (disch := omega) only [ev_S, ev_C, ↓reduceIte, Nat.reduceEqDiff, Nat.reduceLeDiff, Nat.reduceAdd, Nat.reduceMul, Nat.reduceSub, reduceCtorEq, l32_0, l32_1, l32_2, l32_3, l32_4, l32_45, l32_46, l32_600, h1])
    · rcases h5 with e | e | e | e | e <;> rw [ll] <;> (show l.length + 1 ≤ (kA t 46).1 ∨ (kA t 46).1 = 600) <;> omega
  · by_cases c2 : l.length < (kA t 46).1
    · have hk6 : (kA t 46).1 ≤ 600 := by rcases h5 with e | e | e | e | e <;> omega
      refine ⟨jI (jA t 46 (upd (kA t 46).2 l.length (nb c))) 45 1 (Int32.ofNat (l.length + 1)), ?_, ⟨by rw [ll]; rfl, get_app (fun i hi h6 => ?_) (fun _ => if_pos rfl), upd_fits h3, by rw [ll]; exact Or.inl c2, h5, h6, h7⟩, ⟨fun k f r => if_neg r, rfl, rfl, fun k r1 r2 r3 => ⟨if_neg r1, rfl, rfl⟩, rfl, rfl, Nat.le_refl _, Nat.le_refl _, Nat.le_refl _⟩, rfl⟩
      · repeat ((first | unfold cf_171 | unfold cf_171_0 | unfold cf_171_10 | unfold cf_171_22 | unfold cf_171_45 | unfold cf_171_56); try simp (disch := omega) only [ev_S, ev_C, ↓reduceIte, Nat.reduceEqDiff, Nat.reduceLeDiff, Nat.reduceAdd, Nat.reduceMul, Nat.reduceSub, reduceCtorEq, l32_0, l32_1, l32_2, l32_3, l32_4, l32_45, l32_46, l32_600, h1])
      · show upd (kA t 46).2 l.length (nb c) i = _
        rw [upd_n (by omega)]
        exact h2 i hi h6
    · have hk : (kA t 46).1 = l.length := by omega
      obtain ⟨L, hL⟩ : ∃ L, L = (if 600 < 2 * l.length then 600 else 2 * l.length) := ⟨_, rfl⟩
      have hL1 : kl L ∧ l.length < L ∧ (kA t 46).1 / 64 + 1 ≤ L / 64 ∧ L + 17 * (kA t 46).1 ≤ 17 * L := by
        unfold kl at h5 ⊢
        rw [hk] at h5 ⊢
        split at hL <;> (rcases h5 with e | e | e | e | e <;> omega)
      obtain ⟨g1, g2, g3, g4⟩ := hL1
      have hk9 := h7.k
      have h9a := h7.1
      unfold pot at h9a
      have g5 : L ≤ 600 := by rcases g1 with e | e | e | e | e <;> omega
      have hm : Nat.min l.length L = l.length := Nat.min_eq_left (by omega)
      have ei : (if Int32.ofNat 600 < Int32.ofNat (2 * l.length) then Int32.ofNat 600 else Int32.ofNat (2 * l.length)) = Int32.ofNat L := by
        rw [hL]
        by_cases q : 600 < 2 * l.length
        · rw [if_pos ((i32lt (by omega) (by omega)).mpr q), if_pos q]
        · rw [if_neg (fun z => q ((i32lt (by omega) (by omega)).mp z)), if_neg q]
      have hb : zz_bts (kA t 46).2 0 l.length = true := bts_of h3 _
      refine ⟨jI (jA (jMv (jNI t 3 L (kcp 0 (kA t 46).2 l.length)) 46) 46 (upd (kcp 0 (kA t 46).2 l.length) l.length (nb c))) 45 1 (Int32.ofNat (l.length + 1)), ?_, ⟨by rw [ll]; rfl, get_app (fun i hi h6 => ?_) (fun _ => if_pos rfl), upd_fits (fun i => ?_), by rw [ll]; exact Or.inl g2, g1, h6, ?_⟩, ⟨fun k f r => if_neg r, rfl, rfl, fun k r1 r2 r3 => ⟨?_, ?_, ?_⟩, rfl, rfl, ?_, ?_, ?_⟩, rfl⟩
      · unfold cf_171 cf_171_0
        rw [h1, if_neg (fun q => by have := (i32le (a := 600) (by decide) (by omega)).mp q; omega)]
        unfold cf_171_10
        rw [h1, hk, if_neg (fun q => by have := (i32lt (by omega) (by omega)).mp q; omega)]
        unfold cf_171_22
        rw [h1, show (2 : Int32) * Int32.ofNat l.length = Int32.ofNat (2 * l.length) from i32ml, show (600 : Int32) = Int32.ofNat 600 from rfl, ei, hk, i32c (m := L) (by omega), hm, if_pos ⟨i32n (by omega), by omega, by omega, fun q => by have := (i32eq (by omega) (by omega)).mp q; omega, by omega, hb⟩]
        unfold cf_171_45 cf_171_56
        simp (disch := omega) only [ev_S, ev_C, ↓reduceIte, Nat.reduceEqDiff, Nat.reduceLeDiff, Nat.reduceAdd, Nat.reduceMul, Nat.reduceSub, reduceCtorEq, l32_0, l32_1, l32_2, l32_3, l32_4, l32_5, l32_6, l32_7, l32_8, l32_9, l32_10, h1]
      · show upd (kcp 0 (kA t 46).2 l.length) l.length (nb c) i = _
        rw [upd_n (by omega), kcp_lt hi]
        exact h2 i hi h6
      · by_cases q : i < l.length
        · rw [kcp_lt q]
          exact h3 i
        · have : kcp 0 (kA t 46).2 l.length i = 0 := by
            unfold kcp va_cpy
            rw [if_neg (by omega)]
          rw [this]
          exact fits0
      · refine ⟨?_, g5⟩
        show kN t + 1 + 200 < zz_out + (lgc (kB t 43).1 + lgc (kB t 44).1 + L / 64 + lgc (kB t 52).1 + lgc (kA t 55).1 + lgc (kA t 56).1 + lgc (kA t 57).1)
        omega
      · show (if k = 46 then _ else (if k = 46 then _ else (if k = 111 then _ else kA t k))) = _
        rw [if_neg r1, if_neg r1, if_neg r3]
      · show (if k = 46 then _ else kB t k) = _
        rw [if_neg r1]
      · show (if k = 46 then _ else (if k = 111 then _ else kD t k)) = _
        rw [if_neg r1, if_neg r3]
      · show kN t ≤ kN t + 1
        omega
      · show kN t + 1 + pot t ≤ kN t + (lgc (kB t 43).1 + lgc (kB t 44).1 + L / 64 + lgc (kB t 52).1 + lgc (kA t 55).1 + lgc (kA t 56).1 + lgc (kA t 57).1)
        unfold pot
        omega
      · show kQ t + L + poq t ≤ kQ t + (2 * (kB t 43).1 + 2 * (kB t 44).1 + 17 * L + 2 * (kB t 52).1 + 2 * (kA t 55).1 + 2 * (kA t 56).1 + 2 * (kA t 57).1)
        unfold poq
        omega
theorem r_says {c : Int32} (h : rOut s l) (hl : l.length < 2000000000) : ∃ s', mf_348 N c s = some (s', none) ∧ rOut s' (l ++ [nb c]) ∧ oM s s' := by
  obtain ⟨h1, h2⟩ := h
  have ll : (l ++ [nb c]).length = l.length + 1 := List.length_append
  by_cases c6 : 600 ≤ l.length
  · refine ⟨mI s 87 (Int32.ofNat (l.length + 1)), ?_, ⟨by rw [ll]; rfl, get_app h2 (fun q => by omega)⟩, ⟨fun q r => if_neg r, fun _ _ => rfl, fun _ _ => rfl, fun _ _ => rfl⟩⟩
    repeat ((first | unfold mf_348 | unfold mf_348_0 | unfold mf_348_10 | unfold mf_348_21); try simp (disch := omega) only [ev_S, ev_P, ↓reduceIte, Nat.reduceEqDiff, Nat.reduceLeDiff, Nat.reduceAdd, Nat.reduceMul, Nat.reduceSub, reduceCtorEq, l32_0, l32_1, l32_2, l32_3, l32_4, l32_600, h1])
  · refine ⟨mI (mA s 86 (upd (s.2.2.1 86) l.length (nb c))) 87 (Int32.ofNat (l.length + 1)), ?_, ⟨by rw [ll]; rfl, get_app (fun i hi h6 => ?_) (fun _ => if_pos rfl)⟩, ⟨fun q r => if_neg r, fun _ _ => rfl, fun q r => if_neg r, fun _ _ => rfl⟩⟩
    · repeat ((first | unfold mf_348 | unfold mf_348_0 | unfold mf_348_10 | unfold mf_348_21); try simp (disch := omega) only [ev_S, ev_P, ↓reduceIte, Nat.reduceEqDiff, Nat.reduceLeDiff, Nat.reduceAdd, Nat.reduceMul, Nat.reduceSub, reduceCtorEq, l32_0, l32_1, l32_2, l32_3, l32_4, l32_600, h1])
    · show upd (s.2.2.1 86) l.length (nb c) i = _
      rw [upd_n (by omega)]
      exact h2 i hi h6
end OUT
end
-- ### 80.pure.lean.txt
section
/-! ===== PURE: a number is told ===== -/
theorem l64_0 : (0 : Int64) = Int64.ofNat 0 := rfl
theorem l64_1 : (1 : Int64) = Int64.ofNat 1 := rfl
theorem l64_9 : (9 : Int64) = Int64.ofNat 9 := rfl
theorem l64_10 : (10 : Int64) = Int64.ofNat 10 := rfl
theorem l64_48 : (48 : Int64) = Int64.ofNat 48 := rfl
theorem i64add {a b : Nat} : Int64.ofNat a + Int64.ofNat b = Int64.ofNat (a + b) := (Int64.ofNat_add a b).symm
theorem i64mul {a b : Nat} : Int64.ofNat a * Int64.ofNat b = Int64.ofNat (a * b) := (Int64.ofNat_mul a b).symm
theorem i64sub {a b : Nat} (h : b ≤ a) : Int64.ofNat a - Int64.ofNat b = Int64.ofNat (a - b) := (Int64.ofNat_sub a b h).symm
theorem i64eq' {a b : Nat} (ha : a < 9223372036854775808) (hb : b < 9223372036854775808) : (Int64.ofNat a = Int64.ofNat b) = (a = b) := propext (i64eq ha hb)
theorem ev_pm {m : Nat} : Int32.ofNat (m + 1) + -Int32.ofNat 1 = Int32.ofNat m := by
  rw [← Int32.sub_eq_add_neg, ev_sub (by omega), Nat.add_sub_cancel]
theorem ev_pm0 : Int32.ofNat 0 + -Int32.ofNat 1 = -Int32.ofNat 1 := by decide
theorem jA_jA {t : cS} {k : Nat} {g g' : Nat → Int32} : jA (jA t k g) k g' = jA t k g' := by
  have e : (fun a => if a = k then ((kA (jA t k g) k).1, g') else kA (jA t k g) a) = fun a => if a = k then ((kA t k).1, g') else kA t a := by
    funext a
    by_cases c : a = k
    · rw [if_pos c, if_pos c]
      show ((if k = k then ((kA t k).1, g) else kA t k).1, g') = _
      rw [if_pos rfl]
    · rw [if_neg c, if_neg c]
      exact if_neg c
  show (kI t, kL t, kP t, _, t.2.2.2.2) = (kI t, kL t, kP t, _, t.2.2.2.2)
  rw [e]
section NUM
variable {N : Nat} {X : Nat → Option zz_C} {t : cS} {s : mS} {l : List Int32}
theorem dg_eq {w : Nat} : nb (Int32.ofNat (48 + (w - w / 10 * 10))) = dg w := by
  rw [← nb_dg]
  unfold dg
  rw [show w - w / 10 * 10 = w % 10 by omega]
theorem c_dig (h10 : (kA t 47).1 = 10) : ∀ (f w c q : Nat) (g : Nat → Int32), w < 10 ^ (f + 1) → w ≤ 2147483648 → c + f ≤ 9 → ∃ g', cf_172_L3 N X (q + (f + 1)) 0 (Int64.ofNat w) (Int32.ofNat c) (jA t 47 g) = cf_172_59 N X (Int32.ofNat (c + (dgL f w).length)) (jA t 47 g') ∧ (∀ i (hi : i < (dgL f w).length), g' (c + i) = (dgL f w)[i]) ∧ (∀ i, i < c → g' i = g i) := by
  have last : ∀ (w c q : Nat) (g : Nat → Int32), w < 10 → c ≤ 9 → cf_172_L3 N X (q + 1) 0 (Int64.ofNat w) (Int32.ofNat c) (jA t 47 g) = cf_172_59 N X (Int32.ofNat (c + 1)) (jA t 47 (upd g c (dg w))) := fun w c q g hw hc => by
    show cf_172_19 N X (cf_172_L3 N X q) (Int64.ofNat w) (Int32.ofNat c) (jA t 47 g) = _
    have e0 : w / 10 = 0 := by omega
    have e9 := dg_eq (w := w)
    unfold cf_172_19
    simp (disch := omega) only [ev_S, ev_C, ↓reduceIte, Nat.reduceEqDiff, Nat.reduceLeDiff, Nat.reduceAdd, Nat.reduceMul, Nat.reduceSub, reduceCtorEq, l32_0, l32_1, l32_2, l32_3, l32_4, l32_5, l32_6, l32_7, l32_8, l32_9, l32_10, l64_0, l64_10, l64_48, i64div, i64mul, i64sub, i64add, i64eq', Int64.toInt32_ofNat', lg_le, h10, jA_jA, e9]
  intro f
  induction f with
  | zero =>
    intro w c q g hw hw2 hc
    refine ⟨upd g c (dg w), last w c q g (by rw [Nat.zero_add, Nat.pow_one] at hw; exact hw) (by omega), fun i hi => ?_, fun i hi => if_neg (by omega)⟩
    have hi : i < 1 := hi
    have e : i = 0 := by omega
    subst e
    exact if_pos rfl
  | succ f ih =>
    intro w c q g hw hw2 hc
    by_cases h10' : w < 10
    · have ed : dgL (f + 1) w = [dg w] := if_pos h10'
      rw [ed]
      refine ⟨upd g c (dg w), ?_, fun i hi => ?_, fun i hi => if_neg (by omega)⟩
      · rw [← Nat.add_assoc]
        exact last w c (q + (f + 1)) g h10' (by omega)
      · have hi : i < 1 := hi
        have e : i = 0 := by omega
        subst e
        exact if_pos rfl
    · have ed : dgL (f + 1) w = dg w :: dgL f (w / 10) := if_neg h10'
      obtain ⟨g', k1, k2, k3⟩ := ih (w / 10) (c + 1) q (upd g c (dg w)) (by rw [Nat.pow_succ] at hw; omega) (by omega) (by omega)
      rw [ed]
      refine ⟨g', ?_, fun i hi => ?_, fun i hi => (k3 i (by omega)).trans (if_neg (by omega))⟩
      · rw [List.length_cons, show c + ((dgL f (w / 10)).length + 1) = c + 1 + (dgL f (w / 10)).length by omega, ← k1]
        show cf_172_19 N X (cf_172_L3 N X (q + (f + 1))) (Int64.ofNat w) (Int32.ofNat c) (jA t 47 g) = _
        have e9 := dg_eq (w := w)
        unfold cf_172_19 cf_172_52
        simp (disch := omega) only [ev_S, ev_C, ↓reduceIte, Nat.reduceEqDiff, Nat.reduceLeDiff, Nat.reduceAdd, Nat.reduceMul, Nat.reduceSub, reduceCtorEq, l32_0, l32_1, l32_2, l32_3, l32_4, l32_5, l32_6, l32_7, l32_8, l32_9, l32_10, l64_0, l64_10, l64_48, i64div, i64mul, i64sub, i64add, i64eq', Int64.toInt32_ofNat', lg_le, h10, jA_jA, e9]
      · cases i with
        | zero =>
          rw [Nat.add_zero, k3 c (by omega)]
          exact if_pos rfl
        | succ i =>
          have hi : i + 1 < (dgL f (w / 10)).length + 1 := by
            rw [List.length_cons] at hi
            exact hi
          rw [show c + (i + 1) = c + 1 + i by omega, k2 i (by omega)]
          rfl
/-- the digits, the last first -/
def dnL (g : Nat → Int32) : Nat → List Int32
  | 0 => [g 0]
  | m + 1 => g (m + 1) :: dnL g m
theorem c_digits {g : Nat → Int32} : ∀ (m q : Nat) (t : cS) (l : List Int32), m ≤ 9 → cOut t l → l.length < 1900000000 - m → (kA t 47).2 = g → ∃ t', cf_172_L1 N X (q + (m + 2)) 0 (Int32.ofNat m) t = some (t', .inl none) ∧ cOut t' (l ++ (dnL g m).map nb) ∧ ofr t t' := by
  intro m
  induction m with
  | zero =>
    intro q t l hm h hl hg
    obtain ⟨t1, a1, a2, a3, a4⟩ := c_says (N := N) (X := X) (c := (kA t 47).2 0) h (by omega)
    have h6 := h.2.2.2.2.2.1
    refine ⟨t1, ?_, ?_, a3⟩
    · show cf_172_65 N X (cf_172_L1 N X (q + 1)) (Int32.ofNat 0) t = _
      have e : cf_172_L1 N X (q + 1) 0 (-Int32.ofNat 1) t1 = some (t1, .inl none) := by
        show cf_172_65 N X (cf_172_L1 N X q) (-Int32.ofNat 1) t1 = _
        unfold cf_172_65 cf_172_87
        simp (disch := omega) only [ev_S, ev_C, ↓reduceIte, Nat.reduceEqDiff, Nat.reduceLeDiff, Nat.reduceAdd, Nat.reduceMul, Nat.reduceSub, reduceCtorEq, l32_0, l32_1, l32_2, l32_3, l32_4, l32_5, l32_6, l32_7, l32_8, l32_9, l32_10, a4]
      unfold cf_172_65 cf_172_70 cf_172_81
      simp (disch := omega) only [ev_S, ev_C, ↓reduceIte, Nat.reduceEqDiff, Nat.reduceLeDiff, Nat.reduceAdd, Nat.reduceMul, Nat.reduceSub, reduceCtorEq, l32_0, l32_1, l32_2, l32_3, l32_4, l32_5, l32_6, l32_7, l32_8, l32_9, l32_10, h6, a1, ev_pm0, e]
    · rw [hg] at a2
      exact a2
  | succ m ih =>
    intro q t l hm h hl hg
    obtain ⟨t1, a1, a2, a3, a4⟩ := c_says (N := N) (X := X) (c := (kA t 47).2 (m + 1)) h (by omega)
    have h6 := h.2.2.2.2.2.1
    obtain ⟨t', b1, b2, b3⟩ := ih q t1 (l ++ [nb ((kA t 47).2 (m + 1))]) (by omega) a2 (by rw [List.length_append]; show l.length + 1 < _; omega) (by rw [a4]; exact hg)
    refine ⟨t', ?_, ?_, a3.tr b3⟩
    · rw [← b1]
      show cf_172_65 N X (cf_172_L1 N X (q + (m + 2))) (Int32.ofNat (m + 1)) t = _
      unfold cf_172_65 cf_172_70 cf_172_81
      simp (disch := omega) only [ev_S, ev_C, ↓reduceIte, Nat.reduceEqDiff, Nat.reduceLeDiff, Nat.reduceAdd, Nat.reduceMul, Nat.reduceSub, reduceCtorEq, l32_0, l32_1, l32_2, l32_3, l32_4, l32_5, l32_6, l32_7, l32_8, l32_9, l32_10, h6, a1, ev_pm]
    · rw [List.append_assoc, hg] at b2
      exact b2
theorem dn_rev {g : Nat → Int32} : ∀ (D : List Int32) (c : Nat), (∀ i (hi : i < D.length), g (c + i) = D[i]) → 0 < D.length → ∀ m, m + 1 = D.length → c = 0 → dnL g m = D.reverse := by
  intro D c h _ m hm hc
  subst hc
  have key : ∀ m, m < D.length → dnL g m = (D.take (m + 1)).reverse := by
    intro m
    induction m with
    | zero =>
      intro hm
      have := h 0 hm
      rw [Nat.zero_add] at this
      show [g 0] = _
      rw [this, List.take_succ_eq_append_getElem hm, List.take_zero]
      rfl
    | succ m ih =>
      intro hm
      have := h (m + 1) hm
      rw [Nat.zero_add] at this
      show g (m + 1) :: dnL g m = _
      rw [this, ih (by omega), List.take_succ_eq_append_getElem hm, List.reverse_append]
      rfl
  rw [key m (by omega), hm, List.take_length]
theorem cOut_jA {g : Nat → Int32} (h : cOut t l) : cOut (jA t 47 g) l := h
theorem ofr_jA {g : Nat → Int32} : ofr t (jA t 47 g) := ⟨fun _ _ _ => rfl, rfl, rfl, fun k r1 r2 r3 => ⟨if_neg r2, rfl, rfl⟩, rfl, rfl, Nat.le_refl _, Nat.le_refl _, Nat.le_refl _⟩
theorem jA_id : jA t 47 (kA t 47).2 = t := by
  have e : (fun a => if a = 47 then ((kA t 47).1, (kA t 47).2) else kA t a) = kA t := by
    funext a
    by_cases c : a = 47
    · rw [if_pos c, c]
    · rw [if_neg c]
  show (kI t, kL t, kP t, _, t.2.2.2.2) = t
  rw [e]
  rfl
theorem c_numW {w : Nat} (hN : 170000 ≤ N) (h : cOut t l) (hl : l.length < 1800000000) (hw : w ≤ 2147483648) : ∃ t', cf_172_L3 N X N 0 (Int64.ofNat w) (Int32.ofNat 0) t = some (t', .inl none) ∧ cOut t' (l ++ ((dgL 9 w).reverse).map nb) ∧ ofr t t' := by
  have h10 := h.2.2.2.2.2.1
  have e10 : (10 : Nat) ^ (9 + 1) = 10000000000 := by decide
  obtain ⟨g', a1, a2, a3⟩ := c_dig (N := N) (X := X) h10 9 w 0 (N - 10) (kA t 47).2 (by omega) hw (by omega)
  rw [jA_id, show N - 10 + (9 + 1) = N by omega] at a1
  have hlen := dgL_len 9 w
  obtain ⟨m, hm⟩ : ∃ m, (dgL 9 w).length = m + 1 := ⟨(dgL 9 w).length - 1, by omega⟩
  obtain ⟨t', b1, b2, b3⟩ := c_digits (N := N) (X := X) (g := g') m (N - (m + 2)) (jA t 47 g') l (by omega) (cOut_jA h) (by omega) rfl
  rw [show N - (m + 2) + (m + 2) = N by omega] at b1
  rw [dn_rev (dgL 9 w) 0 a2 (by omega) m hm.symm rfl] at b2
  refine ⟨t', ?_, b2, ofr_jA.tr b3⟩
  rw [a1, hm]
  unfold cf_172_59
  have e : Int32.ofNat (0 + (m + 1)) - 1 = Int32.ofNat m := by
    rw [Nat.zero_add, show (1 : Int32) = Int32.ofNat 1 from rfl, ev_sub (by omega), Nat.add_sub_cancel]
  rw [e]
  exact b1
theorem c_number {z : Int32} (hN : 170000 ≤ N) (h : cOut t l) (hl : l.length < 1700000000) : ∃ t', cf_172 N X z t = some (t', .inl none) ∧ cOut t' (l ++ (numL z).map nb) ∧ ofr t t' := by
  have hw := wN_le z
  by_cases c : z < 0
  · obtain ⟨t1, a1, a2, a3, a4⟩ := c_says (N := N) (X := X) (c := 45) h (by omega)
    obtain ⟨t', b1, b2, b3⟩ := c_numW (N := N) (X := X) (w := wN z) hN a2 (by rw [List.length_append]; show l.length + 1 < _; omega) hw
    refine ⟨t', ?_, ?_, a3.tr b3⟩
    · rw [← b1]
      have c1 : ¬ (0 : Int32) ≤ z := fun q => by
        have q1 := Int32.le_iff_toInt_le.mp q
        have q2 := Int32.lt_iff_toInt_lt.mp c
        omega
      unfold cf_172 cf_172_0 cf_172_4
      rw [if_neg c1, a1]
      show cf_172_10 N X z t1 = _
      unfold cf_172_10
      rw [if_neg (fun q => by
        have q1 := Int64.lt_iff_toInt_lt.mp q
        rw [Int32.toInt_toInt64] at q1
        have q2 := Int32.lt_iff_toInt_lt.mp c
        have e1 : (0 : Int64).toInt = 0 := by decide
        have e2 : (0 : Int32).toInt = 0 := by decide
        omega), neg64 c]
      rfl
    · have e : numL z = [45] ++ (dgL 9 (wN z)).reverse := by
        unfold numL
        rw [if_pos c]
      rw [List.append_assoc] at b2
      rw [e, List.map_append]
      exact b2
  · obtain ⟨t', b1, b2, b3⟩ := c_numW (N := N) (X := X) (w := wN z) hN h (by omega) hw
    refine ⟨t', ?_, ?_, b3⟩
    · rw [← b1]
      have c1 : (0 : Int32) ≤ z := by
        rw [Int32.le_iff_toInt_le]
        by_cases q : z.toInt < (0 : Int32).toInt
        · exact absurd (Int32.lt_iff_toInt_lt.mpr q) c
        · omega
      unfold cf_172 cf_172_0 cf_172_10
      rw [if_pos c1, pos64 c]
      have e : (if (0 : Int64) < Int64.ofNat (wN z) then Int64.ofNat (wN z) else -(Int64.ofNat (wN z))) = Int64.ofNat (wN z) := by
        by_cases q : wN z = 0
        · rw [q]
          rfl
        · rw [if_pos (show (0 : Int64) < Int64.ofNat (wN z) from (i64lt (a := 0) (by decide) (by omega)).mpr (by omega))]
      rw [e]
      rfl
    · have e : numL z = (dgL 9 (wN z)).reverse := by
        unfold numL
        rw [if_neg c]
        rfl
      rw [e]
      exact b2
end NUM
end
