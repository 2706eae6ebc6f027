/-! ===== PURE: run (85): the picture's lists ===== -/
/-- to the innermost try -/
def unI : List It → Option (Nat × List It)
  | [] => none
  | a :: l => if a.1 = 3 then some (a.2.2, l) else unI l
def unF : List Fm → Option (Nat × List Fm)
  | [] => none
  | a :: F => match unI a.2.2.2 with
    | some (m, l) => some (m, (a.1, a.2.1, a.2.2.1, l) :: F)
    | none => unF F
section LST
variable {t : cS} {s : mS} {code : List Ins} {Fs : List Fn} {F F' : List Fm} {I J : List It} {b d m z k f h : Nat} {a : Fm} {L : List Nat}
theorem unI_some {l : List It} : ∀ {I : List It}, unI I = some (m, l) → ∃ J x, I = J ++ x :: l ∧ x.1 = 3 ∧ x.2.2 = m ∧ (∀ y ∈ J, ¬ y.1 = 3)
  | [], e => by cases e
  | x :: I, e => by
    unfold unI at e
    by_cases c : x.1 = 3
    · rw [if_pos c] at e
      cases e
      exact ⟨[], x, rfl, c, rfl, fun y hy => by cases hy⟩
    · rw [if_neg c] at e
      obtain ⟨J, y, h1, h2, h3, h4⟩ := unI_some e
      refine ⟨x :: J, y, by rw [h1]; rfl, h2, h3, fun q hq => ?_⟩
      rcases List.mem_cons.mp hq with r | r
      · rw [r]; exact c
      · exact h4 q r
theorem unI_none : ∀ {I : List It}, unI I = none → ∀ y ∈ I, ¬ y.1 = 3
  | [], _, y, hy => by cases hy
  | x :: I, e, y, hy => by
    unfold unI at e
    by_cases c : x.1 = 3
    · rw [if_pos c] at e
      cases e
    · rw [if_neg c] at e
      rcases List.mem_cons.mp hy with r | r
      · rw [r]; exact c
      · exact unI_none e y r
theorem tIt_no : ∀ {I : List It}, (∀ y ∈ I, ¬ y.1 = 3) → tIt b d I = []
  | [], _ => rfl
  | x :: I, h => by
    rw [show tIt b d (x :: I) = tIt b d I from if_neg (h x List.mem_cons_self)]
    exact tIt_no fun y hy => h y (List.mem_cons_of_mem _ hy)
theorem tIt_app : ∀ {J : List It}, (∀ y ∈ J, ¬ y.1 = 3) → tIt b d (J ++ I) = tIt b d I
  | [], _ => rfl
  | x :: J, h => by
    show tIt b d (x :: (J ++ I)) = _
    rw [show tIt b d (x :: (J ++ I)) = tIt b d (J ++ I) from if_neg (h x List.mem_cons_self)]
    exact tIt_app fun y hy => h y (List.mem_cons_of_mem _ hy)
/-- no try is open -/
theorem unF_none : ∀ {F : List Fm}, unF F = none → tStk F = [] ∧ ∀ w ∈ wStk F, ¬ w.1.1 = 3
  | [], _ => ⟨rfl, fun w hw => by cases hw⟩
  | a :: F, e => by
    unfold unF at e
    cases hI : unI a.2.2.2 with
    | some q =>
      rw [hI] at e
      cases e
    | none =>
      rw [hI] at e
      have h1 := unI_none hI
      obtain ⟨h2, h3⟩ := unF_none (F := F) e
      refine ⟨by show tIt _ _ _ ++ tStk F = _; rw [tIt_no h1, h2]; rfl, fun w hw => ?_⟩
      rcases List.mem_append.mp (show w ∈ wIt _ _ _ ++ wStk F from hw) with r | r
      · have key : ∀ {I : List It} {b d : Nat}, w ∈ wIt b d I → w.1 ∈ I := by
          intro I
          induction I with
          | nil => intro b d q; cases q
          | cons x I ih =>
            intro b d q
            unfold wIt at q
            by_cases c : x.1 = 2 ∨ x.1 = 3 ∨ x.1 = 6 ∨ x.1 = 8
            · rw [if_pos c] at q
              rcases List.mem_cons.mp q with r | r
              · rw [r]; exact List.mem_cons_self
              · exact List.mem_cons_of_mem _ (ih r)
            · rw [if_neg c] at q
              exact List.mem_cons_of_mem _ (ih q)
        exact h1 _ (key r)
      · exact h3 w r
theorem wIt_app : ∀ {J : List It}, ∃ W, wIt b d (J ++ I) = W ++ wIt b d I ∧ ((∀ y ∈ J, ¬ y.1 = 3) → ∀ w ∈ W, ¬ w.1.1 = 3)
  | [] => ⟨[], rfl, fun _ w hw => by cases hw⟩
  | x :: J => by
    obtain ⟨W, h1, h2⟩ := wIt_app (J := J)
    by_cases c : x.1 = 2 ∨ x.1 = 3 ∨ x.1 = 6 ∨ x.1 = 8
    · refine ⟨(x, (rIt (J ++ I)).length + b, d) :: W, ?_, fun h w hw => ?_⟩
      · show (if x.1 = 2 ∨ x.1 = 3 ∨ x.1 = 6 ∨ x.1 = 8 then (x, (rIt (J ++ I)).length + b, d) :: wIt b d (J ++ I) else wIt b d (J ++ I)) = _
        rw [if_pos c, h1]
        rfl
      · rcases List.mem_cons.mp hw with r | r
        · rw [r]; exact h x List.mem_cons_self
        · exact h2 (fun y hy => h y (List.mem_cons_of_mem _ hy)) w r
    · refine ⟨W, ?_, fun h w hw => h2 (fun y hy => h y (List.mem_cons_of_mem _ hy)) w hw⟩
      show (if x.1 = 2 ∨ x.1 = 3 ∨ x.1 = 6 ∨ x.1 = 8 then _ else wIt b d (J ++ I)) = _
      rw [if_neg c, h1]
/-- the innermost try, as both sides have it -/
theorem unF_some : ∀ {F : List Fm}, unF F = some (m, F') → ∃ a I G, F' = (a.1, a.2.1, a.2.2.1, I) :: G ∧ (∃ P J x, F = P ++ a :: G ∧ a.2.2.2 = J ++ x :: I ∧ x.1 = 3 ∧ x.2.2 = m) ∧ tStk F = (m, (cStk F').length, F'.length) :: tStk F' ∧ (∃ W x, wStk F = W ++ (x, (rStk F').length, F'.length) :: wStk F' ∧ x.1 = 3 ∧ x.2.2 = m ∧ ∀ w ∈ W, ¬ w.1.1 = 3) ∧ (∃ l, cStk F = l ++ cStk F') ∧ (∃ l, rStk F = l ++ rStk F')
  | [], e => by cases e
  | a :: F, e => by
    unfold unF at e
    cases hI : unI a.2.2.2 with
    | some q =>
      rw [hI] at e
      obtain ⟨m1, l⟩ := q
      have e : some (m1, ((a.1, a.2.1, a.2.2.1, l) : Fm) :: F) = some (m, F') := e
      cases e
      obtain ⟨J, x, h1, h2, h3, h4⟩ := unI_some hI
      refine ⟨a, l, F, rfl, ⟨[], J, x, rfl, h1, h2, h3⟩, ?_, ?_, ⟨cIt J ++ iC x, ?_⟩, ⟨rIt J ++ iR x, ?_⟩⟩
      · show tIt _ _ a.2.2.2 ++ tStk F = _
        rw [h1, tIt_app h4]
        show (if x.1 = 3 then _ else _) ++ _ = _
        rw [if_pos h2, h3]
        show (m, (cIt l).length + (a.2.2.1.length + (cStk F).length), F.length + 1) :: (tIt _ _ l ++ tStk F) = _
        congr 3
        show _ = (cIt l ++ (a.2.2.1.reverse ++ cStk F)).length
        rw [List.length_append, List.length_append, List.length_reverse]
      · obtain ⟨W, g1, g2⟩ := wIt_app (J := J) (I := x :: l) (b := (rStk F).length) (d := F.length + 1)
        refine ⟨W, x, ?_, h2, h3, g2 h4⟩
        show wIt _ _ a.2.2.2 ++ wStk F = _
        rw [h1, g1]
        show W ++ (if x.1 = 2 ∨ x.1 = 3 ∨ x.1 = 6 ∨ x.1 = 8 then _ else _) ++ _ = _
        rw [if_pos (Or.inr (Or.inl h2)), List.append_assoc]
        show W ++ ((x, (rIt l).length + (rStk F).length, F.length + 1) :: (wIt _ _ l ++ wStk F)) = _
        congr 4
        show _ = (rIt l ++ rStk F).length
        rw [List.length_append]
      · show cIt a.2.2.2 ++ _ = _
        rw [h1]
        show (J ++ x :: l).flatMap iC ++ _ = J.flatMap iC ++ iC x ++ (l.flatMap iC ++ _)
        rw [List.flatMap_append, List.flatMap_cons]
        simp only [List.append_assoc]
      · show rIt a.2.2.2 ++ _ = _
        rw [h1]
        show (J ++ x :: l).flatMap iR ++ _ = J.flatMap iR ++ iR x ++ (l.flatMap iR ++ _)
        rw [List.flatMap_append, List.flatMap_cons]
        simp only [List.append_assoc]
    | none =>
      rw [hI] at e
      have h1 := unI_none hI
      obtain ⟨a', I', G, g1, ⟨P, J, x, p1, p2, p3, p4⟩, g2, ⟨W, x', w1, w2, w3, w4⟩, ⟨l, g4⟩, ⟨l', g5⟩⟩ := unF_some (F := F) e
      obtain ⟨W0, q1, q2⟩ := wIt_app (J := a.2.2.2) (I := []) (b := (rStk F).length) (d := F.length + 1)
      refine ⟨a', I', G, g1, ⟨a :: P, J, x, by rw [p1]; rfl, p2, p3, p4⟩, ?_, ⟨W0 ++ W, x', ?_, w2, w3, fun w hw => ?_⟩, ⟨cIt a.2.2.2 ++ (a.2.2.1.reverse ++ l), ?_⟩, ⟨rIt a.2.2.2 ++ l', ?_⟩⟩
      · show tIt _ _ a.2.2.2 ++ tStk F = _
        rw [tIt_no h1, g2]
        rfl
      · rw [List.append_nil] at q1
        show wIt _ _ a.2.2.2 ++ wStk F = _
        rw [q1, w1]
        show W0 ++ [] ++ _ = _
        rw [List.append_nil, List.append_assoc]
      · rcases List.mem_append.mp hw with r | r
        · exact q2 h1 w r
        · exact w4 w r
      · show cIt a.2.2.2 ++ (a.2.2.1.reverse ++ cStk F) = _
        rw [g4]
        simp only [List.append_assoc]
      · show rIt a.2.2.2 ++ rStk F = _
        rw [g5]
        simp only [List.append_assoc]
/-- values on top -/
theorem popV : ∀ {k : Nat} {I : List It} {L : List Nat}, okIs code b z I → pop0 k (kd I) = some L → ∃ (xs : List Nod) (J I' : List It), I = J ++ I' ∧ xs.length = k ∧ rIt J = xs.reverse ∧ cIt J = xs.reverse.map some ∧ (∀ y ∈ J, y.1 = 0) ∧ J.length = k ∧ kd I' = L ∧ okIs code b z I'
  | 0, I, L, ho, h => ⟨[], [], I, rfl, rfl, rfl, rfl, fun y hy => (by cases hy), rfl, Option.some.inj h, ho⟩
  | k + 1, [], L, ho, h => by simp [pop0] at h
  | k + 1, a :: I, L, ho, h => by
    obtain ⟨o1, o2⟩ := ho
    have h : pop0 (k + 1) (a.1 :: kd I) = some L := h
    have a0 : a.1 = 0 := by
      cases e : a.1 with
      | zero => rfl
      | succ q =>
        rw [e] at h
        simp [pop0] at h
    rw [a0] at h
    obtain ⟨xs, J, I', h1, h2, h3, h4, h5, h6, h7, h8⟩ := popV o2 (show pop0 k (kd I) = some L from h)
    obtain ⟨x, hx⟩ := o1.2.1 (Or.inl a0)
    refine ⟨xs ++ [x], a :: J, I', by rw [h1]; rfl, by rw [List.length_append, h2]; rfl, ?_, ?_, ?_, by rw [List.length_cons, h6], h7, h8⟩
    · show iR a ++ rIt J = _
      rw [h3, List.reverse_append]
      unfold iR
      rw [if_pos a0, hx]
      rfl
    · show iC a ++ cIt J = _
      rw [h4, List.reverse_append]
      unfold iC
      rw [if_pos (Or.inl a0), hx]
      rfl
    · intro y hy
      rcases List.mem_cons.mp hy with r | r
      · rw [r]; exact a0
      · exact h5 y r
end LST
