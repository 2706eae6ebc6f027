/-! ===== what the instructions that touch no cell do, the machine does ===== -/
section ZP
variable {p : Program} {l : Launch} {e : Env} {R : Room} {s : State} {m : MethodId} {args : Array Value} {below : List Frame} {meth : Method} {c : Code} {H : Heap} {locs : List Loc} {cells slots : Nat} {Q : State → Prop}
variable {cc : ByteArray} {B : Nat} {O : Nat → Nat} {nL : Nat}
theorem zz_jump_ok {b : Bool} {off : Int} {pc pc' : Nat} {lv lv' : List (Nat × Value)} {st st' : List Value} (h : zz_jump b off pc lv st = some (pc', lv', st')) : lv' = lv ∧ st' = st ∧ (pc : Int) + off = (zz_to pc off : Int) ∧ ((b = true ∧ pc' = zz_to pc off) ∨ (b = false ∧ pc' = pc + 3)) := by
  cases b with
  | true =>
    simp only [zz_jump] at h
    split at h
    · rename_i e
      cases h
      exact ⟨rfl, rfl, by unfold zz_to; omega, Or.inl ⟨rfl, rfl⟩⟩
    · cases h
  | false =>
    simp only [zz_jump] at h
    split at h
    · rename_i e
      cases h
      exact ⟨rfl, rfl, by unfold zz_to; omega, Or.inr ⟨rfl, rfl⟩⟩
    · cases h
set_option maxHeartbeats 4000000 in
theorem zz_p_ok (hx : p.tables.exec = Jvm.exec) (hb : c.code = cc) {ins : Instr} {ln pc pc' : Nat} {lv lv' : List (Nat × Value)} {st st' : List Value} {ls : Array Slot} (h : zz_p nL ins ln pc lv st = some (pc', lv', st')) (hd : decode cc pc = .ok (ins, ln)) (hl : lv_has ls nL (zz_l B O lv))
    (k : ∀ ls' : Array Slot, lv_has ls' nL (zz_l B O lv') → W p l e R s m args below meth c H locs cells slots Q (F0 m pc' ls' (zz_s B O st'))) : W p l e R s m args below meth c H locs cells slots Q (F0 m pc ls (zz_s B O st)) := by
  cases ins
  case iconst n =>
    simp only [zz_p, zz_push] at h
    split at h
    · rename_i e0
      subst e0
      cases h
      exact lv_iconst hx hb hd rfl (k ls hl)
    · cases h
  case bipush n =>
    simp only [zz_p, zz_push] at h
    split at h
    · rename_i e0
      subst e0
      cases h
      exact lv_bipush hx hb hd rfl (k ls hl)
    · cases h
  case sipush n =>
    simp only [zz_p, zz_push] at h
    split at h
    · rename_i e0
      subst e0
      cases h
      exact lv_sipush hx hb hd rfl (k ls hl)
    · cases h
  case lconst n =>
    simp only [zz_p, zz_push] at h
    split at h
    · rename_i e0
      subst e0
      cases h
      exact lv_lconst hx hb hd rfl (k ls hl)
    · cases h
  case aconst_null =>
    simp only [zz_p, zz_push] at h
    split at h
    · rename_i e0
      subst e0
      cases h
      exact lv_null hx hb hd (k ls hl)
    · cases h
  case iload_n k0 =>
    simp only [zz_p, zz_ldi] at h
    split at h
    · rename_i x0 hq0
      split at h
      · rename_i e0
        subst e0
        cases h
        exact lv_iload_n hx hb hd rfl (zz_ld_at hq0 hl) (k ls hl)
      · cases h
    · cases h
  case iload i0 =>
    simp only [zz_p, zz_ldi] at h
    split at h
    · rename_i x0 hq0
      split at h
      · rename_i e0
        subst e0
        cases h
        exact lv_iload hx hb hd (zz_ld_at hq0 hl) (k ls hl)
      · cases h
    · cases h
  case lload_n k0 =>
    simp only [zz_p, zz_ldl] at h
    split at h
    · rename_i x0 hq0
      split at h
      · rename_i e0
        subst e0
        cases h
        exact lv_lload_n hx hb hd rfl (zz_ld_at hq0 hl) (k ls hl)
      · cases h
    · cases h
  case lload i0 =>
    simp only [zz_p, zz_ldl] at h
    split at h
    · rename_i x0 hq0
      split at h
      · rename_i e0
        subst e0
        cases h
        exact lv_lload hx hb hd (zz_ld_at hq0 hl) (k ls hl)
      · cases h
    · cases h
  case aload_n k0 =>
    simp only [zz_p, zz_lda] at h
    split at h
    · rename_i x0 hq0
      split at h
      · rename_i e0
        subst e0
        cases h
        exact lv_aload_n hx hb hd rfl (zz_ld_at hq0 hl) (k ls hl)
      · cases h
    · cases h
  case aload i0 =>
    simp only [zz_p, zz_lda] at h
    split at h
    · rename_i x0 hq0
      split at h
      · rename_i e0
        subst e0
        cases h
        exact lv_aload hx hb hd (zz_ld_at hq0 hl) (k ls hl)
      · cases h
    · cases h
  case istore_n k0 =>
    simp only [zz_p, zz_sti] at h
    split at h
    · rename_i x0 r0
      split at h
      · rename_i e0
        obtain ⟨e0, e1⟩ := e0
        subst e0
        cases h
        exact lv_istore_n hx hb hd rfl hl e1 (zz_l_st1 B O _ (.int x0) lv) (fun ls' hl' => k ls' hl')
      · cases h
    · cases h
  case istore i0 =>
    simp only [zz_p, zz_sti] at h
    split at h
    · rename_i x0 r0
      split at h
      · rename_i e0
        obtain ⟨e0, e1⟩ := e0
        subst e0
        cases h
        exact lv_istore hx hb hd hl e1 (zz_l_st1 B O _ (.int x0) lv) (fun ls' hl' => k ls' hl')
      · cases h
    · cases h
  case lstore_n k0 =>
    simp only [zz_p, zz_stl] at h
    split at h
    · rename_i x0 r0
      split at h
      · rename_i e0
        obtain ⟨e0, e1⟩ := e0
        subst e0
        cases h
        exact lv_lstore_n hx hb hd rfl hl e1 (zz_l_st2 B O _ (.long x0) lv) (fun ls' hl' => k ls' hl')
      · cases h
    · cases h
  case lstore i0 =>
    simp only [zz_p, zz_stl] at h
    split at h
    · rename_i x0 r0
      split at h
      · rename_i e0
        obtain ⟨e0, e1⟩ := e0
        subst e0
        cases h
        exact lv_lstore hx hb hd hl e1 (zz_l_st2 B O _ (.long x0) lv) (fun ls' hl' => k ls' hl')
      · cases h
    · cases h
  case astore_n k0 =>
    simp only [zz_p, zz_sta] at h
    split at h
    · rename_i x0 r0
      split at h
      · rename_i e0
        obtain ⟨e0, e1⟩ := e0
        subst e0
        cases h
        exact lv_astore_n hx hb hd rfl hl e1 (zz_l_st1 B O _ (.ref x0) lv) (fun ls' hl' => k ls' hl')
      · cases h
    · cases h
  case astore i0 =>
    simp only [zz_p, zz_sta] at h
    split at h
    · rename_i x0 r0
      split at h
      · rename_i e0
        obtain ⟨e0, e1⟩ := e0
        subst e0
        cases h
        exact lv_astore hx hb hd hl e1 (zz_l_st1 B O _ (.ref x0) lv) (fun ls' hl' => k ls' hl')
      · cases h
    · cases h
  case iinc i0 n0 =>
    simp only [zz_p, zz_inc] at h
    split at h
    · rename_i x0 hq0
      split at h
      · rename_i e0
        obtain ⟨e0, e1⟩ := e0
        subst e0
        cases h
        obtain ⟨k9, hk9⟩ := List.getElem?_of_mem (zz_ld_mem hq0)
        exact lv_iinc (k := k9) (x := x0) hx hb hd hl (by unfold zz_l; rw [List.getElem?_map, hk9]; rfl) rfl e1 (zz_l_st1 B O _ (.int (x0 + Int32.ofInt n0)) lv) (fun ls' hl' => k ls' hl')
      · cases h
    · cases h
  case iadd =>
    simp only [zz_p, zz_ii] at h
    split at h
    · rename_i y0 x0 r0
      split at h
      · rename_i e0
        subst e0
        cases h
        exact lv_iadd hx hb hd (k ls hl)
      · cases h
    · cases h
  case isub =>
    simp only [zz_p, zz_ii] at h
    split at h
    · rename_i y0 x0 r0
      split at h
      · rename_i e0
        subst e0
        cases h
        exact lv_isub hx hb hd (k ls hl)
      · cases h
    · cases h
  case imul =>
    simp only [zz_p, zz_ii] at h
    split at h
    · rename_i y0 x0 r0
      split at h
      · rename_i e0
        subst e0
        cases h
        exact lv_imul hx hb hd (k ls hl)
      · cases h
    · cases h
  case iand =>
    simp only [zz_p, zz_ii] at h
    split at h
    · rename_i y0 x0 r0
      split at h
      · rename_i e0
        subst e0
        cases h
        exact lv_iand hx hb hd (k ls hl)
      · cases h
    · cases h
  case ior =>
    simp only [zz_p, zz_ii] at h
    split at h
    · rename_i y0 x0 r0
      split at h
      · rename_i e0
        subst e0
        cases h
        exact lv_ior hx hb hd (k ls hl)
      · cases h
    · cases h
  case ixor =>
    simp only [zz_p, zz_ii] at h
    split at h
    · rename_i y0 x0 r0
      split at h
      · rename_i e0
        subst e0
        cases h
        exact lv_ixor hx hb hd (k ls hl)
      · cases h
    · cases h
  case ishl =>
    simp only [zz_p, zz_ii] at h
    split at h
    · rename_i y0 x0 r0
      split at h
      · rename_i e0
        subst e0
        cases h
        exact lv_ishl hx hb hd (k ls hl)
      · cases h
    · cases h
  case ishr =>
    simp only [zz_p, zz_ii] at h
    split at h
    · rename_i y0 x0 r0
      split at h
      · rename_i e0
        subst e0
        cases h
        exact lv_ishr hx hb hd (k ls hl)
      · cases h
    · cases h
  case iushr =>
    simp only [zz_p, zz_ii] at h
    split at h
    · rename_i y0 x0 r0
      split at h
      · rename_i e0
        subst e0
        cases h
        exact lv_iushr hx hb hd rfl (k ls hl)
      · cases h
    · cases h
  case idiv =>
    simp only [zz_p, zz_iid] at h
    split at h
    · rename_i y0 x0 r0
      split at h
      · rename_i e0
        obtain ⟨e0, e1⟩ := e0
        subst e0
        cases h
        exact lv_idiv hx hb hd e1 (k ls hl)
      · cases h
    · cases h
  case irem =>
    simp only [zz_p, zz_iid] at h
    split at h
    · rename_i y0 x0 r0
      split at h
      · rename_i e0
        obtain ⟨e0, e1⟩ := e0
        subst e0
        cases h
        exact lv_irem hx hb hd e1 (k ls hl)
      · cases h
    · cases h
  case ineg =>
    simp only [zz_p, zz_i1] at h
    split at h
    · rename_i x0 r0
      split at h
      · rename_i e0
        subst e0
        cases h
        exact lv_ineg hx hb hd (k ls hl)
      · cases h
    · cases h
  case ladd =>
    simp only [zz_p, zz_ll] at h
    split at h
    · rename_i y0 x0 r0
      split at h
      · rename_i e0
        subst e0
        cases h
        exact lv_ladd hx hb hd (k ls hl)
      · cases h
    · cases h
  case lsub =>
    simp only [zz_p, zz_ll] at h
    split at h
    · rename_i y0 x0 r0
      split at h
      · rename_i e0
        subst e0
        cases h
        exact lv_lsub hx hb hd (k ls hl)
      · cases h
    · cases h
  case lmul =>
    simp only [zz_p, zz_ll] at h
    split at h
    · rename_i y0 x0 r0
      split at h
      · rename_i e0
        subst e0
        cases h
        exact lv_lmul hx hb hd (k ls hl)
      · cases h
    · cases h
  case land =>
    simp only [zz_p, zz_ll] at h
    split at h
    · rename_i y0 x0 r0
      split at h
      · rename_i e0
        subst e0
        cases h
        exact lv_land hx hb hd (k ls hl)
      · cases h
    · cases h
  case lor =>
    simp only [zz_p, zz_ll] at h
    split at h
    · rename_i y0 x0 r0
      split at h
      · rename_i e0
        subst e0
        cases h
        exact lv_lor hx hb hd (k ls hl)
      · cases h
    · cases h
  case lxor =>
    simp only [zz_p, zz_ll] at h
    split at h
    · rename_i y0 x0 r0
      split at h
      · rename_i e0
        subst e0
        cases h
        exact lv_lxor hx hb hd (k ls hl)
      · cases h
    · cases h
  case ldiv =>
    simp only [zz_p, zz_lld] at h
    split at h
    · rename_i y0 x0 r0
      split at h
      · rename_i e0
        obtain ⟨e0, e1⟩ := e0
        subst e0
        cases h
        exact lv_ldiv hx hb hd e1 (k ls hl)
      · cases h
    · cases h
  case lrem =>
    simp only [zz_p, zz_lld] at h
    split at h
    · rename_i y0 x0 r0
      split at h
      · rename_i e0
        obtain ⟨e0, e1⟩ := e0
        subst e0
        cases h
        exact lv_lrem hx hb hd e1 (k ls hl)
      · cases h
    · cases h
  case lneg =>
    simp only [zz_p, zz_l1] at h
    split at h
    · rename_i x0 r0
      split at h
      · rename_i e0
        subst e0
        cases h
        exact lv_lneg hx hb hd (k ls hl)
      · cases h
    · cases h
  case lushr =>
    simp only [zz_p, zz_li] at h
    split at h
    · rename_i y0 x0 r0
      split at h
      · rename_i e0
        subst e0
        cases h
        exact lv_lushr hx hb hd rfl (k ls hl)
      · cases h
    · cases h
  case lshl =>
    simp only [zz_p, zz_li] at h
    split at h
    · rename_i y0 x0 r0
      split at h
      · rename_i e0
        subst e0
        cases h
        exact lv_lshl hx hb hd rfl (k ls hl)
      · cases h
    · cases h
  case lshr =>
    simp only [zz_p, zz_li] at h
    split at h
    · rename_i y0 x0 r0
      split at h
      · rename_i e0
        subst e0
        cases h
        exact lv_lshr hx hb hd rfl (k ls hl)
      · cases h
    · cases h
  case i2l =>
    simp only [zz_p, zz_i1] at h
    split at h
    · rename_i x0 r0
      split at h
      · rename_i e0
        subst e0
        cases h
        exact lv_i2l hx hb hd rfl (k ls hl)
      · cases h
    · cases h
  case l2i =>
    simp only [zz_p, zz_l1] at h
    split at h
    · rename_i x0 r0
      split at h
      · rename_i e0
        subst e0
        cases h
        exact lv_l2i hx hb hd rfl (k ls hl)
      · cases h
    · cases h
  case i2b =>
    simp only [zz_p, zz_i1] at h
    split at h
    · rename_i x0 r0
      split at h
      · rename_i e0
        subst e0
        cases h
        exact lv_i2b hx hb hd rfl (k ls hl)
      · cases h
    · cases h
  case i2c =>
    simp only [zz_p, zz_i1] at h
    split at h
    · rename_i x0 r0
      split at h
      · rename_i e0
        subst e0
        cases h
        exact lv_i2c hx hb hd rfl (k ls hl)
      · cases h
    · cases h
  case lcmp =>
    simp only [zz_p, zz_llc] at h
    split at h
    · rename_i y0 x0 r0
      split at h
      · rename_i e0
        subst e0
        cases h
        exact W.lcmp hx hb hd (k ls hl)
      · cases h
    · cases h
  case dup =>
    simp only [zz_p, zz_dup] at h
    split at h
    · rename_i x0 r0
      split at h
      · rename_i e0
        obtain ⟨e0, e1⟩ := e0
        subst e0
        cases h
        exact lv_dup hx hb hd ((zz_v_cat B O _).trans e1) (k ls hl)
      · cases h
    · cases h
  case pop =>
    simp only [zz_p, zz_pop] at h
    split at h
    · rename_i x0 r0
      split at h
      · rename_i e0
        obtain ⟨e0, e1⟩ := e0
        subst e0
        cases h
        exact lv_pop hx hb hd ((zz_v_cat B O _).trans e1) (k ls hl)
      · cases h
    · cases h
  case dup_x1 =>
    simp only [zz_p, zz_dup_x1] at h
    split at h
    · rename_i x0 y0 r0
      split at h
      · rename_i e0
        obtain ⟨e0, e1, e2⟩ := e0
        subst e0
        cases h
        exact lv_dup_x1 hx hb hd ((zz_v_cat B O _).trans e1) ((zz_v_cat B O _).trans e2) (k ls hl)
      · cases h
    · cases h
  case dup_x2 =>
    simp only [zz_p, zz_dup_x2] at h
    split at h
    · rename_i x0 y0 z0 r0
      split at h
      · rename_i e0
        obtain ⟨e0, e1, e2, e3⟩ := e0
        subst e0
        cases h
        exact lv_dup_x2 hx hb hd ((zz_v_cat B O _).trans e1) ((zz_v_cat B O _).trans e2) ((zz_v_cat B O _).trans e3) (k ls hl)
      · cases h
    · cases h
  case dup2 =>
    simp only [zz_p, zz_dup2] at h
    split at h
    · rename_i x0 r0
      split at h
      · rename_i e0
        subst e0
        cases h
        exact lv_dup2_2 hx hb hd rfl (k ls hl)
      · cases h
    · rename_i x0 y0 r0 hne
      split at h
      · rename_i e0
        obtain ⟨e0, e1, e2⟩ := e0
        subst e0
        cases h
        exact lv_dup2_11 hx hb hd ((zz_v_cat B O _).trans e1) ((zz_v_cat B O _).trans e2) (k ls hl)
      · cases h
    · cases h
  case pop2 =>
    simp only [zz_p, zz_pop2] at h
    split at h
    · rename_i x0 r0
      split at h
      · rename_i e0
        subst e0
        cases h
        exact lv_pop2_2 hx hb hd rfl (k ls hl)
      · cases h
    · rename_i x0 y0 r0 hne
      split at h
      · rename_i e0
        obtain ⟨e0, e1, e2⟩ := e0
        subst e0
        cases h
        exact lv_pop2_11 hx hb hd ((zz_v_cat B O _).trans e1) ((zz_v_cat B O _).trans e2) (k ls hl)
      · cases h
    · cases h
  case dup2_x1 =>
    simp only [zz_p, zz_dup2_x1] at h
    split at h
    · rename_i x0 y0 r0
      split at h
      · rename_i e0
        obtain ⟨e0, e1⟩ := e0
        subst e0
        cases h
        exact lv_dup2_x1_2 hx hb hd rfl ((zz_v_cat B O _).trans e1) (k ls hl)
      · cases h
    · cases h
  case dup2_x2 =>
    simp only [zz_p, zz_dup2_x2] at h
    split at h
    · rename_i x0 y0 z0 r0
      split at h
      · rename_i e0
        obtain ⟨e0, e1, e2⟩ := e0
        subst e0
        cases h
        exact lv_dup2_x2_2 hx hb hd rfl ((zz_v_cat B O _).trans e1) ((zz_v_cat B O _).trans e2) (k ls hl)
      · cases h
    · cases h
  case ifCond cd off =>
    simp only [zz_p, zz_if] at h
    split at h
    · rename_i x0 r0
      split at h
      · rename_i e0
        subst e0
        obtain ⟨e1, e2, e3, e4⟩ := zz_jump_ok h
        subst e1
        subst e2
        cases cd
        · rcases e4 with ⟨e4, e5⟩ | ⟨e4, e5⟩
          · subst e5
            exact lv_if_eq hx hb hd e3 (fun _ => k ls hl) (fun hn => absurd (by simpa [zz_cond] using e4) hn)
          · subst e5
            exact lv_if_eq hx hb hd e3 (fun hn => absurd hn (by simpa [zz_cond] using e4)) (fun _ => k ls hl)
        · rcases e4 with ⟨e4, e5⟩ | ⟨e4, e5⟩
          · subst e5
            exact lv_if_ne hx hb hd e3 (fun _ => k ls hl) (fun hn => absurd hn (by simpa [zz_cond] using e4))
          · subst e5
            exact lv_if_ne hx hb hd e3 (fun hn => absurd (by simpa [zz_cond] using e4) hn) (fun _ => k ls hl)
        · rcases e4 with ⟨e4, e5⟩ | ⟨e4, e5⟩
          · subst e5
            exact lv_if_lt hx hb hd e3 (fun _ => k ls hl) (fun hn => absurd (by simpa [zz_cond] using e4) hn)
          · subst e5
            exact lv_if_lt hx hb hd e3 (fun hn => absurd hn (by simpa [zz_cond] using e4)) (fun _ => k ls hl)
        · rcases e4 with ⟨e4, e5⟩ | ⟨e4, e5⟩
          · subst e5
            exact lv_if_ge hx hb hd e3 (fun _ => k ls hl) (fun hn => absurd (by simpa [zz_cond] using e4) hn)
          · subst e5
            exact lv_if_ge hx hb hd e3 (fun hn => absurd hn (by simpa [zz_cond] using e4)) (fun _ => k ls hl)
        · rcases e4 with ⟨e4, e5⟩ | ⟨e4, e5⟩
          · subst e5
            exact lv_if_gt hx hb hd e3 (fun _ => k ls hl) (fun hn => absurd (by simpa [zz_cond] using e4) hn)
          · subst e5
            exact lv_if_gt hx hb hd e3 (fun hn => absurd hn (by simpa [zz_cond] using e4)) (fun _ => k ls hl)
        · rcases e4 with ⟨e4, e5⟩ | ⟨e4, e5⟩
          · subst e5
            exact lv_if_le hx hb hd e3 (fun _ => k ls hl) (fun hn => absurd (by simpa [zz_cond] using e4) hn)
          · subst e5
            exact lv_if_le hx hb hd e3 (fun hn => absurd hn (by simpa [zz_cond] using e4)) (fun _ => k ls hl)
      · cases h
    · cases h
  case if_icmp cd off =>
    simp only [zz_p, zz_icmp] at h
    split at h
    · rename_i y0 x0 r0
      split at h
      · rename_i e0
        subst e0
        obtain ⟨e1, e2, e3, e4⟩ := zz_jump_ok h
        subst e1
        subst e2
        cases cd
        · rcases e4 with ⟨e4, e5⟩ | ⟨e4, e5⟩
          · subst e5
            exact lv_icmp_eq hx hb hd e3 (fun _ => k ls hl) (fun hn => absurd (by simpa [zz_cond] using e4) hn)
          · subst e5
            exact lv_icmp_eq hx hb hd e3 (fun hn => absurd hn (by simpa [zz_cond] using e4)) (fun _ => k ls hl)
        · rcases e4 with ⟨e4, e5⟩ | ⟨e4, e5⟩
          · subst e5
            exact lv_icmp_ne hx hb hd e3 (fun _ => k ls hl) (fun hn => absurd hn (by simpa [zz_cond] using e4))
          · subst e5
            exact lv_icmp_ne hx hb hd e3 (fun hn => absurd (by simpa [zz_cond] using e4) hn) (fun _ => k ls hl)
        · rcases e4 with ⟨e4, e5⟩ | ⟨e4, e5⟩
          · subst e5
            exact lv_icmp_lt hx hb hd e3 (fun _ => k ls hl) (fun hn => absurd (by simpa [zz_cond] using e4) hn)
          · subst e5
            exact lv_icmp_lt hx hb hd e3 (fun hn => absurd hn (by simpa [zz_cond] using e4)) (fun _ => k ls hl)
        · rcases e4 with ⟨e4, e5⟩ | ⟨e4, e5⟩
          · subst e5
            exact lv_icmp_ge hx hb hd e3 (fun _ => k ls hl) (fun hn => absurd (by simpa [zz_cond] using e4) hn)
          · subst e5
            exact lv_icmp_ge hx hb hd e3 (fun hn => absurd hn (by simpa [zz_cond] using e4)) (fun _ => k ls hl)
        · rcases e4 with ⟨e4, e5⟩ | ⟨e4, e5⟩
          · subst e5
            exact lv_icmp_gt hx hb hd e3 (fun _ => k ls hl) (fun hn => absurd (by simpa [zz_cond] using e4) hn)
          · subst e5
            exact lv_icmp_gt hx hb hd e3 (fun hn => absurd hn (by simpa [zz_cond] using e4)) (fun _ => k ls hl)
        · rcases e4 with ⟨e4, e5⟩ | ⟨e4, e5⟩
          · subst e5
            exact lv_icmp_le hx hb hd e3 (fun _ => k ls hl) (fun hn => absurd (by simpa [zz_cond] using e4) hn)
          · subst e5
            exact lv_icmp_le hx hb hd e3 (fun hn => absurd hn (by simpa [zz_cond] using e4)) (fun _ => k ls hl)
      · cases h
    · cases h
  case goto off =>
    simp only [zz_p, zz_goto] at h
    split at h
    · rename_i e0
      subst e0
      obtain ⟨e1, e2, e3, e4⟩ := zz_jump_ok h
      subst e1
      subst e2
      rcases e4 with ⟨e4, e5⟩ | ⟨e4, e5⟩
      · subst e5
        exact lv_goto hx hb hd e3 (k ls hl)
      · cases e4
    · cases h
  case ifnull off =>
    simp only [zz_p, zz_null] at h
    split at h
    · rename_i r0
      split at h
      · rename_i e0
        subst e0
        obtain ⟨e1, e2, e3, e4⟩ := zz_jump_ok h
        subst e1
        subst e2
        rcases e4 with ⟨e4, e5⟩ | ⟨e4, e5⟩
        · subst e5
          exact lv_ifnullN hx hb hd e3 (k ls hl)
        · cases e4
      · cases h
    · rename_i x0 r0
      split at h
      · rename_i e0
        subst e0
        obtain ⟨e1, e2, e3, e4⟩ := zz_jump_ok h
        subst e1
        subst e2
        rcases e4 with ⟨e4, e5⟩ | ⟨e4, e5⟩
        · cases e4
        · subst e5
          exact lv_ifnull hx hb hd (k ls hl)
      · cases h
    · cases h
  case ifnonnull off =>
    simp only [zz_p, zz_null] at h
    split at h
    · rename_i r0
      split at h
      · rename_i e0
        subst e0
        obtain ⟨e1, e2, e3, e4⟩ := zz_jump_ok h
        subst e1
        subst e2
        rcases e4 with ⟨e4, e5⟩ | ⟨e4, e5⟩
        · cases e4
        · subst e5
          exact lv_ifnonnullN hx hb hd (k ls hl)
      · cases h
    · rename_i x0 r0
      split at h
      · rename_i e0
        subst e0
        obtain ⟨e1, e2, e3, e4⟩ := zz_jump_ok h
        subst e1
        subst e2
        rcases e4 with ⟨e4, e5⟩ | ⟨e4, e5⟩
        · subst e5
          exact lv_ifnonnull hx hb hd e3 (k ls hl)
        · cases e4
      · cases h
    · cases h
  case tableswitch dflt lo hi offs =>
    simp only [zz_p, zz_table] at h
    split at h
    · rename_i x0 r0
      split at h
      · rename_i e0
        split at h
        · cases h
          exact lv_tableOut hx hb hd (of_decide_eq_true e0) (by unfold zz_to; omega) (k ls hl)
        · cases h
      · rename_i e0
        have e0 := of_decide_eq_false e0
        split at h
        · rename_i off e1
          split at h
          · cases h
            exact lv_tableIn hx hb hd (fun z => e0 (Or.inl z)) (fun z => e0 (Or.inr z)) e1 (by unfold zz_to; omega) (k ls hl)
          · cases h
        · cases h
    · cases h
  case lookupswitch dflt ps =>
    simp only [zz_p, zz_look] at h
    split at h
    · rename_i x0 r0
      split at h
      · rename_i e0
        obtain ⟨e0, e1⟩ := e0
        cases h
        exact lv_lookup hx hb hd e0 rfl (by unfold zz_to; omega) (k ls hl)
      · cases h
    · cases h
  all_goals (simp only [zz_p] at h; cases h)
end ZP
