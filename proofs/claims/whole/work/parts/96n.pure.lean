/-! ===== PURE: run (41): to put in order ===== -/
def ipos (kf : Int32 → Int32) (m : Int32) (p : List Int32) : Nat → Nat
  | 0 => 0
  | j + 1 => if kf m < kf (p.getD j 0) then ipos kf m p j else j + 1
def ins (kf : Int32 → Int32) (p : List Int32) (m : Int32) : List Int32 := p.take (ipos kf m p p.length) ++ m :: p.drop (ipos kf m p p.length)
def srt (kf : Int32 → Int32) (l : List Int32) : List Int32 := l.foldl (ins kf) []
section SRT
variable {kf : Int32 → Int32} {m : Int32} {p l : List Int32} {G : Nat → Int32} {base j : Nat}
theorem ipos_le : ∀ j, ipos kf m p j ≤ j
  | 0 => Nat.le_refl _
  | j + 1 => by
    show (if kf m < kf (p.getD j 0) then ipos kf m p j else j + 1) ≤ j + 1
    split
    · exact Nat.le_succ_of_le (ipos_le j)
    · exact Nat.le_refl _
theorem ins_len : (ins kf p m).length = p.length + 1 := by
  unfold ins
  rw [List.length_append, List.length_cons, List.length_take, List.length_drop]
  have := ipos_le (kf := kf) (m := m) (p := p) p.length
  omega
theorem srt_len : ∀ l : List Int32, (srt kf l).length = l.length := fun l => by
  have : ∀ (l q : List Int32), (l.foldl (ins kf) q).length = q.length + l.length := fun l => by
    induction l with
    | nil => intro q; rfl
    | cons z l ih =>
      intro q
      show ((l.foldl (ins kf) (ins kf q z))).length = _
      rw [ih, ins_len, List.length_cons]
      omega
  have h := this l []
  rw [List.length_nil, Nat.zero_add] at h
  exact h
theorem srt_s {i : Nat} (hi : i < l.length) : srt kf (l.take (i + 1)) = ins kf (srt kf (l.take i)) l[i] := by
  unfold srt
  rw [foldl_take hi]
theorem ins_mem {z : Int32} (h : z ∈ ins kf p m) : z = m ∨ z ∈ p := by
  unfold ins at h
  rcases List.mem_append.mp h with h | h
  · exact Or.inr (List.mem_of_mem_take h)
  · rcases List.mem_cons.mp h with h | h
    · exact Or.inl h
    · exact Or.inr (List.mem_of_mem_drop h)
theorem srt_mem : ∀ (l : List Int32) {z : Int32}, z ∈ srt kf l → z ∈ l := fun l {z} h => by
  have : ∀ (l q : List Int32), z ∈ l.foldl (ins kf) q → z ∈ q ∨ z ∈ l := fun l => by
    induction l with
    | nil => intro q h; exact Or.inl h
    | cons y l ih =>
      intro q h
      rcases ih (ins kf q y) h with h | h
      · rcases ins_mem h with h | h
        · exact Or.inr (by rw [h]; exact List.mem_cons_self)
        · exact Or.inl h
      · exact Or.inr (List.mem_cons_of_mem _ h)
  rcases this l [] h with h | h
  · cases h
  · exact h
theorem ipos_map {j : Nat} (hj : j ≤ p.length) : ipos id (kf m) (p.map kf) j = ipos kf m p j := by
  induction j with
  | zero => rfl
  | succ j ih =>
    show (if kf m < (p.map kf).getD j 0 then ipos id (kf m) (p.map kf) j else j + 1) = if kf m < kf (p.getD j 0) then ipos kf m p j else j + 1
    rw [ih (by omega), List.getD_eq_getElem?_getD, List.getD_eq_getElem?_getD, List.getElem?_eq_getElem (by rw [List.length_map]; omega), List.getElem?_eq_getElem (by omega)]
    show (if kf m < (p.map kf)[j]'(by rw [List.length_map]; omega) then _ else _) = _
    rw [List.getElem_map]
    rfl
theorem ins_map : (ins kf p m).map kf = ins id (p.map kf) (kf m) := by
  unfold ins
  rw [List.length_map, ipos_map (Nat.le_refl _), List.map_append, List.map_cons, List.map_take, List.map_drop]
theorem srt_map : ∀ l : List Int32, (srt kf l).map kf = srt id (l.map kf) := fun l => by
  have : ∀ (l q : List Int32), (l.foldl (ins kf) q).map kf = (l.map kf).foldl (ins id) (q.map kf) := fun l => by
    induction l with
    | nil => intro q; rfl
    | cons y l ih =>
      intro q
      show ((l.foldl (ins kf) (ins kf q y))).map kf = (l.map kf).foldl (ins id) (ins id (q.map kf) (kf y))
      rw [ih, ins_map]
  exact this l []
/-- p lies from base on, but for a gap at j -/
def invA (G : Nat → Int32) (base : Nat) (p : List Int32) (j : Nat) : Prop := (∀ i (hi : i < p.length), i < j → G (base + i) = p[i]) ∧ ∀ i (hi : i < p.length), j ≤ i → G (base + i + 1) = p[i]
theorem invA.step (h : invA G base p (j + 1)) (hj : j < p.length) : invA (upd G (base + (j + 1)) (G (base + j))) base p j := by
  refine ⟨fun i hi h1 => ?_, fun i hi h1 => ?_⟩
  · show (if base + i = base + (j + 1) then _ else G (base + i)) = _
    rw [if_neg (by omega)]
    exact h.1 i hi (by omega)
  · show (if base + i + 1 = base + (j + 1) then G (base + j) else G (base + i + 1)) = _
    by_cases c : i = j
    · subst c
      rw [if_pos (by omega)]
      exact h.1 i hi (by omega)
    · rw [if_neg (by omega)]
      exact h.2 i hi (by omega)
theorem invA.fin (h : invA G base p j) (hj : j ≤ p.length) : ∀ i (hi : i < (p.take j ++ m :: p.drop j).length), upd G (base + j) m (base + i) = (p.take j ++ m :: p.drop j)[i] := fun i hi => by
  have hl : (p.take j).length = j := by rw [List.length_take]; omega
  rw [List.length_append, List.length_cons, hl, List.length_drop] at hi
  show (if base + i = base + j then m else G (base + i)) = _
  by_cases c : i < j
  · rw [if_neg (by omega), List.getElem_append_left (by omega), List.getElem_take]
    exact h.1 i (by omega) c
  · rw [List.getElem_append_right (by omega)]
    by_cases d : i = j
    · rw [if_pos (by omega)]
      simp only [hl, d, Nat.sub_self, List.getElem_cons_zero]
    · rw [if_neg (by omega)]
      obtain ⟨i', rfl⟩ : ∃ i', i = i' + 1 := ⟨i - 1, by omega⟩
      have h2 := h.2 i' (by omega) (by omega)
      rw [show base + (i' + 1) = base + i' + 1 by omega, h2]
      have e : i' + 1 - (p.take j).length = (i' - j) + 1 := by rw [hl]; omega
      simp only [e, List.getElem_cons_succ, List.getElem_drop]
      congr 1
      omega
theorem scn_s {r : List Int32} {i : Nat} (hi : i < r.length) : (r.take (i + 1)).foldl (· + ·) (0 : Int32) = (r.take i).foldl (· + ·) 0 + r[i] := foldl_take hi
/-- running sums -/
def scn (r : List Int32) : List Int32 := (List.range r.length).map fun i => (r.take (i + 1)).foldl (· + ·) 0
/-- the places of a ROW, in the order of what stands there -/
def grd (r : List Int32) : List Int32 := srt (fun z => r.getD z.toNatClampNeg 0) ((List.range r.length).map Int32.ofNat)
theorem grd_map {r : List Int32} (hr : r.length ≤ 64) : (grd r).map (fun z => r.getD z.toNatClampNeg 0) = srt id r := by
  unfold grd
  rw [srt_map, List.map_map]
  congr 1
  conv => rhs; rw [← List.map_id r, ← range_getD (d := 0) (h := id)]
  apply List.map_congr_left
  intro i hi
  have hi := List.mem_range.mp hi
  show r.getD (Int32.ofNat i).toNatClampNeg 0 = r.getD i 0
  rw [ev_S.1 (by omega)]
def wrk (b : Nat) (r : List Int32) : List Int32 := if b = 12 then scn r else if b = 13 then srt id r else grd r
theorem wrk_len {b : Nat} {r : List Int32} : (wrk b r).length = r.length := by
  unfold wrk
  split
  · unfold scn
    rw [List.length_map, List.length_range]
  · split
    · exact srt_len r
    · unfold grd
      rw [srt_len, List.length_map, List.length_range]
def ansK (b : Nat) (x : Nod) : Ans := if kn x = 1 then ansM 1 ((wrk b (rvN x)).map nZ) else ansM 2 (((tvN x).map (wrk b)).map nR)
end SRT
