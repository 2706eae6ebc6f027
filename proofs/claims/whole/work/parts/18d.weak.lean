/-! ===== fewer locals told: what runs with them runs with more ===== -/
def zz_le (a b : List (Nat × Value)) : Prop := ∀ (i : Nat) (v : Value), zz_ld i a = some v → zz_ld i b = some v
def zz_nd (a : List (Nat × Value)) : Prop := (a.map fun q => q.1).Nodup
theorem zz_ld_cons (i : Nat) (q : Nat × Value) (a : List (Nat × Value)) : zz_ld i (q :: a) = if q.1 = i then some q.2 else zz_ld i a := by
  unfold zz_ld
  rw [List.find?_cons]
  by_cases h : q.1 = i
  · simp [h]
  · rw [if_neg h, show (q.1 == i) = false from by simpa using h]
theorem zz_ld_filter_up {p : Nat × Value → Bool} {i : Nat} {v : Value} : ∀ {b : List (Nat × Value)}, zz_ld i b = some v → p (i, v) = true → zz_ld i (b.filter p) = some v
  | [], h, _ => by cases h
  | q :: b, h, hp => by
    rw [zz_ld_cons] at h
    by_cases hq : q.1 = i
    · rw [if_pos hq] at h
      cases h
      have e : q = (i, q.2) := by rw [← hq]
      rw [← e] at hp
      rw [List.filter_cons_of_pos hp, zz_ld_cons, if_pos hq]
    · rw [if_neg hq] at h
      have ih := zz_ld_filter_up (p := p) h hp
      by_cases hpq : p q = true
      · rw [List.filter_cons_of_pos hpq, zz_ld_cons, if_neg hq]
        exact ih
      · rw [List.filter_cons_of_neg hpq]
        exact ih
theorem zz_ld_none {i : Nat} : ∀ {a : List (Nat × Value)}, i ∉ a.map (fun q => q.1) → zz_ld i a = none
  | [], _ => rfl
  | q :: a, h => by
    rw [List.map_cons, List.mem_cons, not_or] at h
    rw [zz_ld_cons, if_neg (Ne.symm h.1)]
    exact zz_ld_none h.2
theorem zz_ld_filter_down {p : Nat × Value → Bool} {i : Nat} {v : Value} : ∀ {a : List (Nat × Value)}, zz_nd a → zz_ld i (a.filter p) = some v → zz_ld i a = some v ∧ p (i, v) = true
  | [], _, h => by cases h
  | q :: a, hn, h => by
    unfold zz_nd at hn
    rw [List.map_cons, List.nodup_cons] at hn
    by_cases hpq : p q = true
    · rw [List.filter_cons_of_pos hpq, zz_ld_cons] at h
      rw [zz_ld_cons]
      by_cases hq : q.1 = i
      · rw [if_pos hq] at h ⊢
        cases h
        have e : q = (i, q.2) := by rw [← hq]
        rw [← e]
        exact ⟨rfl, hpq⟩
      · rw [if_neg hq] at h ⊢
        exact zz_ld_filter_down hn.2 h
    · rw [List.filter_cons_of_neg hpq] at h
      have ih := zz_ld_filter_down hn.2 h
      rw [zz_ld_cons]
      by_cases hq : q.1 = i
      · have : zz_ld i a = none := zz_ld_none (by rw [← hq]; exact hn.1)
        rw [this] at ih
        cases ih.1
      · rw [if_neg hq]
        exact ih
theorem zz_nd_filter {p : Nat × Value → Bool} {a : List (Nat × Value)} (hn : zz_nd a) : zz_nd (a.filter p) := by
  unfold zz_nd at *
  exact (List.filter_sublist.map _).nodup hn
theorem zz_st_weak {p : Nat × Value → Bool} {i : Nat} {v : Value} {a b : List (Nat × Value)} (hp : ∀ w, p (i, w) = false) (hn : zz_nd a) (hl : zz_le a b) : zz_nd ((i, v) :: a.filter p) ∧ zz_le ((i, v) :: a.filter p) ((i, v) :: b.filter p) := by
  refine ⟨?_, ?_⟩
  · unfold zz_nd
    rw [List.map_cons, List.nodup_cons]
    refine ⟨?_, zz_nd_filter hn⟩
    intro h
    obtain ⟨q, hq, e⟩ := List.mem_map.mp h
    have h1 := (List.mem_filter.mp hq).2
    have e2 : q = (i, q.2) := by
      have e : q.1 = i := e
      rw [← e]
    rw [e2, hp] at h1
    cases h1
  · intro j w h
    rw [zz_ld_cons] at h ⊢
    split
    · rename_i e; rw [if_pos e] at h; exact h
    · rename_i e
      rw [if_neg e] at h
      obtain ⟨h1, h2⟩ := zz_ld_filter_down hn h
      exact zz_ld_filter_up (hl _ _ h1) h2
theorem zz_st1_weak {i : Nat} {v : Value} {a b : List (Nat × Value)} (hn : zz_nd a) (hl : zz_le a b) : zz_nd (zz_st1 i v a) ∧ zz_le (zz_st1 i v a) (zz_st1 i v b) := zz_st_weak (fun w => by simp) hn hl
theorem zz_st2_weak {i : Nat} {v : Value} {a b : List (Nat × Value)} (hn : zz_nd a) (hl : zz_le a b) : zz_nd (zz_st2 i v a) ∧ zz_le (zz_st2 i v a) (zz_st2 i v b) := zz_st_weak (fun w => by simp) hn hl
section ZW
variable {a b : List (Nat × Value)} {ln pc pc1 : Nat} {a1 : List (Nat × Value)} {st st1 : List Value}
theorem zz_push_w {k : Nat} {v : Value} (hs : zz_push k ln pc a st v = some (pc1, a1, st1)) : a1 = a ∧ zz_push k ln pc b st v = some (pc1, b, st1) := by
  unfold zz_push at hs ⊢
  split at hs
  · rename_i hc; cases hs; exact ⟨rfl, if_pos hc⟩
  · cases hs
theorem zz_ii_w {g : Int32 → Int32 → Int32} (hs : zz_ii g ln pc a st = some (pc1, a1, st1)) : a1 = a ∧ zz_ii g ln pc b st = some (pc1, b, st1) := by
  unfold zz_ii at hs ⊢
  split at hs <;> first | cases hs | (split at hs <;> first | (rename_i hc; cases hs; exact ⟨rfl, if_pos hc⟩) | cases hs)
theorem zz_iid_w {g : Int32 → Int32 → Int32} (hs : zz_iid g ln pc a st = some (pc1, a1, st1)) : a1 = a ∧ zz_iid g ln pc b st = some (pc1, b, st1) := by
  unfold zz_iid at hs ⊢
  split at hs <;> first | cases hs | (split at hs <;> first | (rename_i hc; cases hs; exact ⟨rfl, if_pos hc⟩) | cases hs)
theorem zz_ll_w {g : Int64 → Int64 → Int64} (hs : zz_ll g ln pc a st = some (pc1, a1, st1)) : a1 = a ∧ zz_ll g ln pc b st = some (pc1, b, st1) := by
  unfold zz_ll at hs ⊢
  split at hs <;> first | cases hs | (split at hs <;> first | (rename_i hc; cases hs; exact ⟨rfl, if_pos hc⟩) | cases hs)
theorem zz_lld_w {g : Int64 → Int64 → Int64} (hs : zz_lld g ln pc a st = some (pc1, a1, st1)) : a1 = a ∧ zz_lld g ln pc b st = some (pc1, b, st1) := by
  unfold zz_lld at hs ⊢
  split at hs <;> first | cases hs | (split at hs <;> first | (rename_i hc; cases hs; exact ⟨rfl, if_pos hc⟩) | cases hs)
theorem zz_li_w {g : Int64 → Int32 → Int64} (hs : zz_li g ln pc a st = some (pc1, a1, st1)) : a1 = a ∧ zz_li g ln pc b st = some (pc1, b, st1) := by
  unfold zz_li at hs ⊢
  split at hs <;> first | cases hs | (split at hs <;> first | (rename_i hc; cases hs; exact ⟨rfl, if_pos hc⟩) | cases hs)
theorem zz_i1_w {g : Int32 → Value} (hs : zz_i1 g ln pc a st = some (pc1, a1, st1)) : a1 = a ∧ zz_i1 g ln pc b st = some (pc1, b, st1) := by
  unfold zz_i1 at hs ⊢
  split at hs <;> first | cases hs | (split at hs <;> first | (rename_i hc; cases hs; exact ⟨rfl, if_pos hc⟩) | cases hs)
theorem zz_l1_w {g : Int64 → Value} (hs : zz_l1 g ln pc a st = some (pc1, a1, st1)) : a1 = a ∧ zz_l1 g ln pc b st = some (pc1, b, st1) := by
  unfold zz_l1 at hs ⊢
  split at hs <;> first | cases hs | (split at hs <;> first | (rename_i hc; cases hs; exact ⟨rfl, if_pos hc⟩) | cases hs)
theorem zz_llc_w {g : Int64 → Int64 → Int32} (hs : zz_llc g ln pc a st = some (pc1, a1, st1)) : a1 = a ∧ zz_llc g ln pc b st = some (pc1, b, st1) := by
  unfold zz_llc at hs ⊢
  split at hs <;> first | cases hs | (split at hs <;> first | (rename_i hc; cases hs; exact ⟨rfl, if_pos hc⟩) | cases hs)
theorem zz_dup_w (hs : zz_dup ln pc a st = some (pc1, a1, st1)) : a1 = a ∧ zz_dup ln pc b st = some (pc1, b, st1) := by
  unfold zz_dup at hs ⊢
  split at hs <;> first | cases hs | (split at hs <;> first | (rename_i hc; cases hs; exact ⟨rfl, if_pos hc⟩) | cases hs)
theorem zz_pop_w (hs : zz_pop ln pc a st = some (pc1, a1, st1)) : a1 = a ∧ zz_pop ln pc b st = some (pc1, b, st1) := by
  unfold zz_pop at hs ⊢
  split at hs <;> first | cases hs | (split at hs <;> first | (rename_i hc; cases hs; exact ⟨rfl, if_pos hc⟩) | cases hs)
theorem zz_dup_x1_w (hs : zz_dup_x1 ln pc a st = some (pc1, a1, st1)) : a1 = a ∧ zz_dup_x1 ln pc b st = some (pc1, b, st1) := by
  unfold zz_dup_x1 at hs ⊢
  split at hs <;> first | cases hs | (split at hs <;> first | (rename_i hc; cases hs; exact ⟨rfl, if_pos hc⟩) | cases hs)
theorem zz_dup_x2_w (hs : zz_dup_x2 ln pc a st = some (pc1, a1, st1)) : a1 = a ∧ zz_dup_x2 ln pc b st = some (pc1, b, st1) := by
  unfold zz_dup_x2 at hs ⊢
  split at hs <;> first | cases hs | (split at hs <;> first | (rename_i hc; cases hs; exact ⟨rfl, if_pos hc⟩) | cases hs)
theorem zz_dup2_w (hs : zz_dup2 ln pc a st = some (pc1, a1, st1)) : a1 = a ∧ zz_dup2 ln pc b st = some (pc1, b, st1) := by
  unfold zz_dup2 at hs ⊢
  split at hs <;> first | cases hs | (split at hs <;> first | (rename_i hc; cases hs; refine ⟨rfl, ?_⟩; simp_all; done) | cases hs)
theorem zz_pop2_w (hs : zz_pop2 ln pc a st = some (pc1, a1, st1)) : a1 = a ∧ zz_pop2 ln pc b st = some (pc1, b, st1) := by
  unfold zz_pop2 at hs ⊢
  split at hs <;> first | cases hs | (split at hs <;> first | (rename_i hc; cases hs; refine ⟨rfl, ?_⟩; simp_all; done) | cases hs)
theorem zz_dup2_x1_w (hs : zz_dup2_x1 ln pc a st = some (pc1, a1, st1)) : a1 = a ∧ zz_dup2_x1 ln pc b st = some (pc1, b, st1) := by
  unfold zz_dup2_x1 at hs ⊢
  split at hs <;> first | cases hs | (split at hs <;> first | (rename_i hc; cases hs; exact ⟨rfl, if_pos hc⟩) | cases hs)
theorem zz_dup2_x2_w (hs : zz_dup2_x2 ln pc a st = some (pc1, a1, st1)) : a1 = a ∧ zz_dup2_x2 ln pc b st = some (pc1, b, st1) := by
  unfold zz_dup2_x2 at hs ⊢
  split at hs <;> first | cases hs | (split at hs <;> first | (rename_i hc; cases hs; exact ⟨rfl, if_pos hc⟩) | cases hs)
theorem zz_jump_w {c : Bool} {off : Int} (hs : zz_jump c off pc a st = some (pc1, a1, st1)) : a1 = a ∧ zz_jump c off pc b st = some (pc1, b, st1) := by
  unfold zz_jump at hs ⊢
  split at hs <;> first | cases hs | (split at hs <;> first | (rename_i hc; cases hs; exact ⟨rfl, if_pos hc⟩) | cases hs)
theorem zz_if_w {cd : ClassFile.Cond} {off : Int} (hs : zz_if cd off ln pc a st = some (pc1, a1, st1)) : a1 = a ∧ zz_if cd off ln pc b st = some (pc1, b, st1) := by
  unfold zz_if at hs ⊢
  split at hs <;> first | cases hs | (split at hs <;> first | (rename_i hc; have h2 := zz_jump_w (b := b) hs; exact ⟨h2.1, (if_pos hc).trans h2.2⟩) | cases hs)
theorem zz_icmp_w {cd : ClassFile.Cond} {off : Int} (hs : zz_icmp cd off ln pc a st = some (pc1, a1, st1)) : a1 = a ∧ zz_icmp cd off ln pc b st = some (pc1, b, st1) := by
  unfold zz_icmp at hs ⊢
  split at hs <;> first | cases hs | (split at hs <;> first | (rename_i hc; have h2 := zz_jump_w (b := b) hs; exact ⟨h2.1, (if_pos hc).trans h2.2⟩) | cases hs)
theorem zz_goto_w {off : Int} (hs : zz_goto off ln pc a st = some (pc1, a1, st1)) : a1 = a ∧ zz_goto off ln pc b st = some (pc1, b, st1) := by
  unfold zz_goto at hs ⊢
  split at hs
  · rename_i hc; have h2 := zz_jump_w (b := b) hs; exact ⟨h2.1, (if_pos hc).trans h2.2⟩
  · cases hs
theorem zz_null_w {c : Bool} {off : Int} (hs : zz_null c off ln pc a st = some (pc1, a1, st1)) : a1 = a ∧ zz_null c off ln pc b st = some (pc1, b, st1) := by
  unfold zz_null at hs ⊢
  split at hs <;> first | cases hs | (split at hs <;> first | (rename_i hc; have h2 := zz_jump_w (b := b) hs; exact ⟨h2.1, (if_pos hc).trans h2.2⟩) | cases hs)
theorem zz_table_w {dflt lo hi : Int} {offs : Array Int} (hs : zz_table dflt lo hi offs pc a st = some (pc1, a1, st1)) : a1 = a ∧ zz_table dflt lo hi offs pc b st = some (pc1, b, st1) := by
  unfold zz_table at hs ⊢
  split at hs
  · split at hs
    · rename_i hd
      split at hs
      · rename_i hc
        cases hs
        refine ⟨rfl, ?_⟩
        exact if_pos hc
      · cases hs
    · rename_i hd
      split at hs
      · rename_i off ho
        split at hs
        · rename_i hc
          cases hs
          refine ⟨rfl, ?_⟩
          exact if_pos hc
        · cases hs
      · cases hs
  · cases hs
theorem zz_look_w {dflt : Int} {ps : Array (Int × Int)} (hs : zz_look dflt ps pc a st = some (pc1, a1, st1)) : a1 = a ∧ zz_look dflt ps pc b st = some (pc1, b, st1) := by
  unfold zz_look at hs ⊢
  split at hs <;> first | cases hs | (split at hs <;> first | (rename_i hc; cases hs; exact ⟨rfl, if_pos hc⟩) | cases hs)
theorem zz_ldc_w {v : Int32} (hs : zz_ldc v ln pc a st = some (pc1, a1, st1)) : a1 = a ∧ zz_ldc v ln pc b st = some (pc1, b, st1) := by
  unfold zz_ldc at hs ⊢
  split at hs
  · rename_i hc; cases hs; exact ⟨rfl, if_pos hc⟩
  · cases hs
theorem zz_ldcw_w {v : Int32} (hs : zz_ldcw v ln pc a st = some (pc1, a1, st1)) : a1 = a ∧ zz_ldcw v ln pc b st = some (pc1, b, st1) := by
  unfold zz_ldcw at hs ⊢
  split at hs
  · rename_i hc; cases hs; exact ⟨rfl, if_pos hc⟩
  · cases hs
theorem zz_ldcs_w {k : Nat} (hs : zz_ldcs k ln pc a st = some (pc1, a1, st1)) : a1 = a ∧ zz_ldcs k ln pc b st = some (pc1, b, st1) := by
  unfold zz_ldcs at hs ⊢
  split at hs
  · split at hs
    · rename_i hc; cases hs; exact ⟨rfl, if_pos hc⟩
    · cases hs
  · cases hs
theorem zz_acmp_w {cd : ClassFile.ACond} {off : Int} (hs : zz_acmp cd off ln pc a st = some (pc1, a1, st1)) : a1 = a ∧ zz_acmp cd off ln pc b st = some (pc1, b, st1) := by
  unfold zz_acmp at hs ⊢
  split at hs <;> first | cases hs | (split at hs <;> first | (rename_i hc; have h2 := zz_jump_w (b := b) hs; exact ⟨h2.1, (if_pos hc).trans h2.2⟩) | cases hs)
theorem zz_ldc2_w {v : Int64} (hs : zz_ldc2 v ln pc a st = some (pc1, a1, st1)) : a1 = a ∧ zz_ldc2 v ln pc b st = some (pc1, b, st1) := by
  unfold zz_ldc2 at hs ⊢
  split at hs
  · rename_i hc; cases hs; exact ⟨rfl, if_pos hc⟩
  · cases hs
theorem zz_ldi_w {k i : Nat} (hl : zz_le a b) (hs : zz_ldi k i ln pc a st = some (pc1, a1, st1)) : a1 = a ∧ zz_ldi k i ln pc b st = some (pc1, b, st1) := by
  unfold zz_ldi at hs ⊢
  split at hs
  · rename_i x hx
    rw [hl _ _ hx]
    split at hs
    · rename_i hc; cases hs; exact ⟨rfl, if_pos hc⟩
    · cases hs
  · cases hs
theorem zz_ldl_w {k i : Nat} (hl : zz_le a b) (hs : zz_ldl k i ln pc a st = some (pc1, a1, st1)) : a1 = a ∧ zz_ldl k i ln pc b st = some (pc1, b, st1) := by
  unfold zz_ldl at hs ⊢
  split at hs
  · rename_i x hx
    rw [hl _ _ hx]
    split at hs
    · rename_i hc; cases hs; exact ⟨rfl, if_pos hc⟩
    · cases hs
  · cases hs
theorem zz_lda_w {k i : Nat} (hl : zz_le a b) (hs : zz_lda k i ln pc a st = some (pc1, a1, st1)) : a1 = a ∧ zz_lda k i ln pc b st = some (pc1, b, st1) := by
  unfold zz_lda at hs ⊢
  split at hs
  · rename_i x hx
    rw [hl _ _ hx]
    split at hs
    · rename_i hc; cases hs; exact ⟨rfl, if_pos hc⟩
    · cases hs
  · cases hs
theorem zz_sti_w {nL k i : Nat} (hn : zz_nd a) (hl : zz_le a b) (hs : zz_sti nL k i ln pc a st = some (pc1, a1, st1)) : ∃ b1, zz_sti nL k i ln pc b st = some (pc1, b1, st1) ∧ zz_nd a1 ∧ zz_le a1 b1 := by
  unfold zz_sti at hs ⊢
  split at hs <;> first | cases hs | (split at hs <;> first | (rename_i hc; cases hs; exact ⟨_, if_pos hc, zz_st1_weak hn hl⟩) | cases hs)
theorem zz_stl_w {nL k i : Nat} (hn : zz_nd a) (hl : zz_le a b) (hs : zz_stl nL k i ln pc a st = some (pc1, a1, st1)) : ∃ b1, zz_stl nL k i ln pc b st = some (pc1, b1, st1) ∧ zz_nd a1 ∧ zz_le a1 b1 := by
  unfold zz_stl at hs ⊢
  split at hs <;> first | cases hs | (split at hs <;> first | (rename_i hc; cases hs; exact ⟨_, if_pos hc, zz_st2_weak hn hl⟩) | cases hs)
theorem zz_sta_w {nL k i : Nat} (hn : zz_nd a) (hl : zz_le a b) (hs : zz_sta nL k i ln pc a st = some (pc1, a1, st1)) : ∃ b1, zz_sta nL k i ln pc b st = some (pc1, b1, st1) ∧ zz_nd a1 ∧ zz_le a1 b1 := by
  unfold zz_sta at hs ⊢
  split at hs <;> first | cases hs | (split at hs <;> first | (rename_i hc; cases hs; exact ⟨_, if_pos hc, zz_st1_weak hn hl⟩) | cases hs)
theorem zz_inc_w {nL i : Nat} {n : Int} (hn : zz_nd a) (hl : zz_le a b) (hs : zz_inc nL i n ln pc a st = some (pc1, a1, st1)) : ∃ b1, zz_inc nL i n ln pc b st = some (pc1, b1, st1) ∧ zz_nd a1 ∧ zz_le a1 b1 := by
  unfold zz_inc at hs ⊢
  split at hs
  · rename_i x hx
    rw [hl _ _ hx]
    split at hs
    · rename_i hc; cases hs; exact ⟨_, if_pos hc, zz_st1_weak hn hl⟩
    · cases hs
  · cases hs
theorem zz_same_w {f : List (Nat × Value) → Option zz_F} (hn : zz_nd a) (hl : zz_le a b) (h : a1 = a ∧ f b = some (pc1, b, st1)) : ∃ b1, f b = some (pc1, b1, st1) ∧ zz_nd a1 ∧ zz_le a1 b1 := by
  obtain ⟨h1, h2⟩ := h
  subst h1
  exact ⟨b, h2, hn, hl⟩
theorem zz_p_w {nL : Nat} {ins : Instr} (hn : zz_nd a) (hl : zz_le a b) (hs : zz_p nL ins ln pc a st = some (pc1, a1, st1)) : ∃ b1, zz_p nL ins ln pc b st = some (pc1, b1, st1) ∧ zz_nd a1 ∧ zz_le a1 b1 := by
  cases ins <;> simp only [zz_p] at hs ⊢ <;> first
    | cases hs
    | exact zz_sti_w hn hl hs
    | exact zz_stl_w hn hl hs
    | exact zz_sta_w hn hl hs
    | exact zz_inc_w hn hl hs
    | exact zz_same_w (f := fun b => zz_ldi _ _ _ _ b _) hn hl (zz_ldi_w hl hs)
    | exact zz_same_w (f := fun b => zz_ldl _ _ _ _ b _) hn hl (zz_ldl_w hl hs)
    | exact zz_same_w (f := fun b => zz_lda _ _ _ _ b _) hn hl (zz_lda_w hl hs)
    | exact zz_same_w (f := fun b => zz_push _ _ _ b _ _) hn hl (zz_push_w hs)
    | exact zz_same_w (f := fun b => zz_ii _ _ _ b _) hn hl (zz_ii_w hs)
    | exact zz_same_w (f := fun b => zz_iid _ _ _ b _) hn hl (zz_iid_w hs)
    | exact zz_same_w (f := fun b => zz_ll _ _ _ b _) hn hl (zz_ll_w hs)
    | exact zz_same_w (f := fun b => zz_lld _ _ _ b _) hn hl (zz_lld_w hs)
    | exact zz_same_w (f := fun b => zz_li _ _ _ b _) hn hl (zz_li_w hs)
    | exact zz_same_w (f := fun b => zz_i1 _ _ _ b _) hn hl (zz_i1_w hs)
    | exact zz_same_w (f := fun b => zz_l1 _ _ _ b _) hn hl (zz_l1_w hs)
    | exact zz_same_w (f := fun b => zz_llc _ _ _ b _) hn hl (zz_llc_w hs)
    | exact zz_same_w (f := fun b => zz_dup _ _ b _) hn hl (zz_dup_w hs)
    | exact zz_same_w (f := fun b => zz_pop _ _ b _) hn hl (zz_pop_w hs)
    | exact zz_same_w (f := fun b => zz_dup_x1 _ _ b _) hn hl (zz_dup_x1_w hs)
    | exact zz_same_w (f := fun b => zz_dup_x2 _ _ b _) hn hl (zz_dup_x2_w hs)
    | exact zz_same_w (f := fun b => zz_dup2 _ _ b _) hn hl (zz_dup2_w hs)
    | exact zz_same_w (f := fun b => zz_pop2 _ _ b _) hn hl (zz_pop2_w hs)
    | exact zz_same_w (f := fun b => zz_dup2_x1 _ _ b _) hn hl (zz_dup2_x1_w hs)
    | exact zz_same_w (f := fun b => zz_dup2_x2 _ _ b _) hn hl (zz_dup2_x2_w hs)
    | exact zz_same_w (f := fun b => zz_if _ _ _ _ b _) hn hl (zz_if_w hs)
    | exact zz_same_w (f := fun b => zz_icmp _ _ _ _ b _) hn hl (zz_icmp_w hs)
    | exact zz_same_w (f := fun b => zz_goto _ _ _ b _) hn hl (zz_goto_w hs)
    | exact zz_same_w (f := fun b => zz_null _ _ _ _ b _) hn hl (zz_null_w hs)
    | exact zz_same_w (f := fun b => zz_table _ _ _ _ _ b _) hn hl (zz_table_w hs)
    | exact zz_same_w (f := fun b => zz_look _ _ _ b _) hn hl (zz_look_w hs)
end ZW
section ZWH
variable {tf : Nat → Nat → FieldType} {fd : Nat → List Value} {X : Nat → Option zz_C} {nL : Nat} {r : zz_N} {pc pc1 : Nat} {a b a1 : List (Nat × Value)} {st st1 : List Value} {h h1 : zz_H}
theorem zz_wh_w {f : List (Nat × Value) → Option zz_F} (hf : ∀ {pc1 : Nat} {a1 : List (Nat × Value)} {st1 : List Value}, f a = some (pc1, a1, st1) → ∃ b1, f b = some (pc1, b1, st1) ∧ zz_nd a1 ∧ zz_le a1 b1) (hs : zz_wh (f a) h = some ((pc1, a1, st1), h1)) : ∃ b1, zz_wh (f b) h = some ((pc1, b1, st1), h1) ∧ zz_nd a1 ∧ zz_le a1 b1 := by
  obtain ⟨e1, e2⟩ := zz_wh_ok hs
  subst e2
  obtain ⟨b1, h2, h3⟩ := hf e1
  exact ⟨b1, by rw [h2]; rfl, h3⟩
theorem zz_whp_w {ins : Instr} {ln : Nat} (hn : zz_nd a) (hl : zz_le a b) (hs : zz_wh (zz_p nL ins ln pc a st) h = some ((pc1, a1, st1), h1)) : ∃ b1, zz_wh (zz_p nL ins ln pc b st) h = some ((pc1, b1, st1), h1) ∧ zz_nd a1 ∧ zz_le a1 b1 := zz_wh_w (f := fun b => zz_p nL ins ln pc b st) (fun h => zz_p_w hn hl h) hs
theorem zz_step1_w (hn : zz_nd a) (hl : zz_le a b) (hs : zz_step1 tf fd X nL r pc a st h = some ((pc1, a1, st1), h1)) : ∃ b1, zz_step1 tf fd X nL r pc b st h = some ((pc1, b1, st1), h1) ∧ zz_nd a1 ∧ zz_le a1 b1 := by
  obtain ⟨pc0, ins, ln, na, nb, nn⟩ := r
  cases ins
  case getfield =>
    simp only [zz_step1] at hs ⊢
    by_cases hna : na < 20
    · rw [if_pos hna] at hs ⊢
      unfold zz_getf at hs ⊢
      repeat (split at hs <;> try cases hs)
      refine ⟨b, ?_, hn, hl⟩
      simp_all
    · rw [if_neg hna] at hs ⊢
      unfold zz_getx at hs ⊢
      repeat (split at hs <;> try cases hs)
      refine ⟨b, ?_, hn, hl⟩
      simp_all
  case getstatic =>
    simp only [zz_step1] at hs ⊢
    unfold zz_gets at hs ⊢
    repeat (split at hs <;> try cases hs)
    refine ⟨b, ?_, hn, hl⟩
    simp_all
  case if_acmp cd off =>
    exact zz_wh_w (f := fun b => zz_acmp cd off ln pc b st) (fun h => zz_same_w (f := fun b => zz_acmp cd off ln pc b st) hn hl (zz_acmp_w h)) hs
  case iaload =>
    simp only [zz_step1] at hs ⊢
    unfold zz_iald at hs ⊢
    repeat (split at hs <;> try cases hs)
    refine ⟨b, ?_, hn, hl⟩
    simp_all
  case laload =>
    simp only [zz_step1] at hs ⊢
    unfold zz_lald at hs ⊢
    repeat (split at hs <;> try cases hs)
    refine ⟨b, ?_, hn, hl⟩
    simp_all
  case baload =>
    simp only [zz_step1] at hs ⊢
    unfold zz_bald at hs ⊢
    repeat (split at hs <;> try cases hs)
    refine ⟨b, ?_, hn, hl⟩
    simp_all
  case aaload =>
    simp only [zz_step1] at hs ⊢
    unfold zz_aald at hs ⊢
    repeat (split at hs <;> try cases hs)
    refine ⟨b, ?_, hn, hl⟩
    simp_all
  case arraylength =>
    simp only [zz_step1] at hs ⊢
    unfold zz_alen at hs ⊢
    repeat (split at hs <;> try cases hs)
    refine ⟨b, ?_, hn, hl⟩
    simp_all
  case putfield =>
    simp only [zz_step1] at hs ⊢
    unfold zz_putf at hs ⊢
    repeat (split at hs <;> try cases hs)
    refine ⟨b, ?_, hn, hl⟩
    simp_all
  case iastore =>
    simp only [zz_step1] at hs ⊢
    unfold zz_iast at hs ⊢
    repeat (split at hs <;> try cases hs)
    refine ⟨b, ?_, hn, hl⟩
    simp_all
  case lastore =>
    simp only [zz_step1] at hs ⊢
    unfold zz_last at hs ⊢
    repeat (split at hs <;> try cases hs)
    refine ⟨b, ?_, hn, hl⟩
    simp_all
  case bastore =>
    simp only [zz_step1] at hs ⊢
    unfold zz_bast at hs ⊢
    repeat (split at hs <;> try cases hs)
    refine ⟨b, ?_, hn, hl⟩
    simp_all
  case aastore =>
    simp only [zz_step1] at hs ⊢
    by_cases hn1 : nn = 1
    · rw [if_pos hn1] at hs ⊢
      unfold zz_aast2 at hs ⊢
      repeat (split at hs <;> try cases hs)
      refine ⟨b, ?_, hn, hl⟩
      simp_all
    · rw [if_neg hn1] at hs ⊢
      unfold zz_aast at hs ⊢
      repeat (split at hs <;> try cases hs)
      refine ⟨b, ?_, hn, hl⟩
      simp_all
  case new =>
    simp only [zz_step1] at hs ⊢
    by_cases hn9 : nn = -9
    · rw [if_pos hn9] at hs
      cases hs
    rw [if_neg hn9] at hs ⊢
    unfold zz_new at hs ⊢
    repeat (split at hs <;> try cases hs)
    rename_i hc
    exact ⟨b, if_pos hc, hn, hl⟩
  case newarray =>
    simp only [zz_step1] at hs ⊢
    unfold zz_newa at hs ⊢
    repeat (split at hs <;> try cases hs)
    refine ⟨b, ?_, hn, hl⟩
    simp_all
  case anewarray =>
    simp only [zz_step1] at hs ⊢
    unfold zz_anew at hs ⊢
    repeat (split at hs <;> try cases hs)
    rename_i hc
    exact ⟨b, if_pos hc, hn, hl⟩
  case multianewarray =>
    simp only [zz_step1] at hs ⊢
    unfold zz_mna at hs ⊢
    repeat (split at hs <;> try cases hs)
    rename_i hc
    exact ⟨b, if_pos hc, hn, hl⟩
  case ldc idx =>
    simp only [zz_step1] at hs ⊢
    by_cases hnb : nb = 0
    · rw [if_pos hnb] at hs ⊢
      exact zz_wh_w (f := fun b => zz_ldc (Int32.ofInt nn) ln pc b st) (fun h => zz_same_w (f := fun b => zz_ldc (Int32.ofInt nn) ln pc b st) hn hl (zz_ldc_w h)) hs
    · rw [if_neg hnb] at hs ⊢
      exact zz_wh_w (f := fun b => zz_ldcs na ln pc b st) (fun h => zz_same_w (f := fun b => zz_ldcs na ln pc b st) hn hl (zz_ldcs_w h)) hs
  case ldc_w =>
    exact zz_wh_w (f := fun b => zz_ldcw _ _ _ b _) (fun h => zz_same_w (f := fun b => zz_ldcw _ _ _ b _) hn hl (zz_ldcw_w h)) hs
  case ldc2_w =>
    exact zz_wh_w (f := fun b => zz_ldc2 _ _ _ b _) (fun h => zz_same_w (f := fun b => zz_ldc2 _ _ _ b _) hn hl (zz_ldc2_w h)) hs
  all_goals (
    simp only [zz_step1] at hs ⊢
    exact zz_whp_w hn hl hs)
theorem zz_run_w {P : Nat → Option zz_M} : ∀ (n d : Nat) (M : zz_M) (pc : Nat) (a b : List (Nat × Value)) (st : List Value) (h : zz_H) (q : zz_O × zz_H), zz_nd a → zz_le a b → zz_run P tf fd X n d M pc a st h = some q → zz_run P tf fd X n d M pc b st h = some q := by
  intro n
  induction n with
  | zero => intro d M pc a b st h q _ _ hr; cases hr
  | succ n ih =>
    intro d M pc a b st h q hn hl hr
    unfold zz_run at hr
    rw [zz_run]
    split at hr
    · cases hr
    · rename_i r hrow
      split at hr
      · rename_i hc
        split at hr
        · rename_i f' h' hs
          obtain ⟨pc1, a1, st1⟩ := f'
          obtain ⟨b1, h2, h3, h4⟩ := zz_step1_w hn hl hs
          try simp only [hc]
          simp only [h2]
          exact ih _ _ _ _ _ _ _ _ h3 h4 hr
        · cases hr
      · rename_i hc
        try simp only [hc]
        exact hr
      · rename_i hc
        try simp only [hc]
        exact hr
      · rename_i h0 h1 h3
        split at hr
        · cases hr
        · rename_i d'
          split at hr
          · rename_i hnn
            try rw [if_pos hnn]
            split at hr
            · rename_i st' h' hs
              try simp only [hs]
              split at hr
              · rename_i hln
                try rw [if_pos hln]
                exact ih _ _ _ _ _ _ _ _ hn hl hr
              · cases hr
            · cases hr
          · rename_i hnn
            try rw [if_neg hnn]
            split at hr
            · cases hr
            · rename_i as rest hs
              try simp only [hs]
              split at hr
              · cases hr
              · rename_i M' hM
                try simp only [hM]
                split at hr
                · rename_i hlw
                  try rw [if_pos hlw]
                  split at hr
                  · cases hr
                  · rename_i v1 h1' hc1
                    try simp only [hc1]
                    exact ih _ _ _ _ _ _ _ _ hn hl hr
                  · rename_i q1 h1' hc1
                    try simp only [hc1]
                    exact hr
                · cases hr
end ZWH
/-- the locals that are told, one by one -/
def zz_sub : List (Nat × Value) → List (Nat × Value) → Prop
  | [], _ => True
  | q :: a, b => zz_ld q.1 b = some q.2 ∧ zz_sub a b
theorem zz_sub_le : ∀ {a b : List (Nat × Value)}, zz_sub a b → zz_le a b
  | [], _, _ => fun i v h => by cases h
  | q :: a, b, hs => fun i v h => by
    rw [zz_ld_cons] at h
    split at h
    · rename_i e; cases h; rw [← e]; exact hs.1
    · exact zz_sub_le hs.2 i v h
def zz_ndb : List Nat → Bool
  | [] => true
  | i :: r => !r.contains i && zz_ndb r
theorem zz_ndb_ok : ∀ {r : List Nat}, zz_ndb r = true → r.Nodup
  | [], _ => List.nodup_nil
  | i :: r, h => by
    unfold zz_ndb at h
    rw [Bool.and_eq_true] at h
    rw [List.nodup_cons]
    refine ⟨?_, zz_ndb_ok h.2⟩
    intro hm
    have := h.1
    simp [hm] at this
theorem zz_E.weak {P : Nat → Option zz_M} {tf : Nat → Nat → FieldType} {fd : Nat → List Value} {X : Nat → Option zz_C} {d : Nat} {M : zz_M} {pc : Nat} {a b : List (Nat × Value)} {st : List Value} {h : zz_H} {Q : Option Value → zz_H → Prop} (hE : zz_E P tf fd X d M pc a st h Q) (hn : zz_ndb (a.map fun q => q.1) = true) (hs : zz_sub a b) : zz_E P tf fd X d M pc b st h Q := by
  obtain ⟨n, v, hf, h1, h2⟩ := hE
  exact ⟨n, v, hf, zz_run_w n d M pc a b st h _ (zz_ndb_ok hn) (zz_sub_le hs) h1, h2⟩
