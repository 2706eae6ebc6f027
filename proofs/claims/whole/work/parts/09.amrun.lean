/-! ===== a method's run, with calls ===== -/
/-- a method: name, code, locals, what it returns; its rows in stretches, each with the last place in it -/
abbrev zz_M : Type := (MethodName × ByteArray × Nat × Option FieldType) × List (Nat × List zz_N)
def zz_row (M : zz_M) (pc : Nat) : Option zz_N := match M.2.find? (fun c => Nat.ble pc c.1) with
  | some c => c.2.find? (fun r => r.1 == pc)
  | none => none
theorem zz_row_ok {M : zz_M} {pc : Nat} {r : zz_N} (h : zz_row M pc = some r) : (∃ c ∈ M.2, r ∈ c.2) ∧ r.1 = pc := by
  unfold zz_row at h
  split at h
  · rename_i c hc
    have h1 := List.find?_some h
    exact ⟨⟨c, List.mem_of_find?_eq_some hc, List.mem_of_find?_eq_some h⟩, by simpa using h1⟩
  · cases h
/-- what a run comes to: a value that is returned (or none), or a cell that is thrown -/
abbrev zz_O : Type := Option Value ⊕ Nat
/-- 0: an instruction; 1: a return; 2: a call; 3: the throw of a new exception -/
def zz_cls (r : zz_N) : Nat := match r.2.1 with
  | .ireturn => 1
  | .lreturn => 1
  | .areturn => 1
  | .return_ => 1
  | .invokevirtual _ => 2
  | .invokestatic _ => 2
  | .invokespecial _ => 2
  | .new _ => if r.2.2.2.2.2 = -9 then 3 else 0
  | _ => 0
def zz_reti (ret : Option FieldType) (v : Int32) : Bool := match ret with
  | some .int => true
  | some .boolean => v == 0 || v == 1
  | some .byte => v == 0 || v == 1
  | _ => false
def zz_retr (ret : Option FieldType) : Bool := match ret with
  | some (.object _) => true
  | some (.array _) => true
  | _ => false
def zz_ret (ret : Option FieldType) (ins : Instr) (ln : Nat) (st : List Value) (h : zz_H) : Option (Option Value × zz_H) := match ins with
  | .ireturn => match st with
    | [.int v] => if ln = 1 ∧ zz_reti ret v = true then some (some (.int v), h) else none
    | _ => none
  | .lreturn => match st with
    | [.long v] => if ln = 1 ∧ ret = some .long then some (some (.long v), h) else none
    | _ => none
  | .areturn => match st with
    | [.ref a] => if ln = 1 ∧ zz_retr ret = true then some (some (.ref a), h) else none
    | _ => none
  | .return_ => match st with
    | [] => if ln = 1 ∧ ret = none then some (none, h) else none
    | _ => none
  | _ => none
/-- a call's arguments and what stays below them -/
def zz_site (X : Nat → Option zz_C) (ins : Instr) (n : Nat) (nn : Int) (st : List Value) (h : zz_H) : Option (List Value × List Value) := match ins with
  | .invokestatic _ => if n ≤ st.length ∧ zz_cats (st.drop n) ≤ 8 then some ((st.take n).reverse, st.drop n) else none
  | .invokevirtual _ => match st.drop n with
    | .ref b :: rest => match zz_rd X h b with
      | some (.inr (ci, _)) => if n ≤ st.length ∧ zz_cats rest ≤ 8 ∧ ((b < zz_out ↔ ci < 20) ∧ ((ci : Int) = nn ∨ (ci : Int) + 1000 = nn ∨ (ci : Int) + 2000 = nn)) then some (.ref b :: (st.take n).reverse, rest) else none
      | _ => none
    | _ => none
  | .invokespecial _ => match st.drop n with
    | .ref b :: rest => if n ≤ st.length ∧ zz_cats rest ≤ 8 then some (.ref b :: (st.take n).reverse, rest) else none
    | _ => none
  | _ => none
/-- Math's min, max (int), abs, min, max (long) -/
def zz_math (nn : Int) (st : List Value) : Option (List Value) := if nn = -4 then match st with
    | .long x :: rest => if zz_cats rest ≤ 8 then some (.long (if 0 < x then x else -x) :: rest) else none
    | _ => none
  else match st with
    | .int y :: .int x :: rest => if zz_cats rest ≤ 8 ∧ nn = -2 then some (.int (if y < x then y else x) :: rest) else if zz_cats rest ≤ 8 ∧ nn = -3 then some (.int (if x < y then y else x) :: rest) else none
    | .long y :: .long x :: rest => if zz_cats rest ≤ 8 ∧ nn = -5 then some (.long (if y < x then y else x) :: rest) else if zz_cats rest ≤ 8 ∧ nn = -6 then some (.long (if y < x then x else y) :: rest) else none
    | _ => none
/-- Object's constructor (-1); System.arraycopy (-1); Math's (below) -/
def zz_spec (ins : Instr) (nn : Int) (st : List Value) (h : zz_H) : Option (List Value × zz_H) := match ins with
  | .invokespecial _ => match st with
    | .ref _ :: rest => if zz_cats rest ≤ 8 ∧ nn = -1 then some (rest, h) else none
    | _ => none
  | .invokestatic _ => if nn = -1 then zz_acp st h else match zz_math nn st with
    | some st' => some (st', h)
    | none => none
  | _ => none
def zz_words (vs : List Value) : Nat := (vs.map fun v => v.category).sum
def zz_run (P : Nat → Option zz_M) (tf : Nat → Nat → FieldType) (fd : Nat → List Value) (X : Nat → Option zz_C) : Nat → Nat → zz_M → Nat → List (Nat × Value) → List Value → zz_H → Option (zz_O × zz_H)
  | 0, _, _, _, _, _, _ => none
  | n + 1, d, M, pc, lv, st, h => match zz_row M pc with
    | none => none
    | some r => match zz_cls r with
      | 0 => match zz_step1 tf fd X M.1.2.2.1 r pc lv st h with
        | some (f', h') => zz_run P tf fd X n d M f'.1 f'.2.1 f'.2.2 h'
        | none => none
      | 1 => match zz_ret M.1.2.2.2 r.2.1 r.2.2.1 st h with
        | some (v, h') => some (.inl v, h')
        | none => none
      | 3 => if 8 ≤ d ∧ zz_cats st ≤ 8 ∧ h.length < zz_out then some (.inr h.length, h ++ [.inr (14, [])]) else none
      | _ => match d with
        | 0 => none
        | d' + 1 => if r.2.2.2.2.2 < 0 then match zz_spec r.2.1 r.2.2.2.2.2 st h with
            | some (st', h') => if r.2.2.1 = 3 then zz_run P tf fd X n (d' + 1) M (pc + 3) lv st' h' else none
            | none => none
          else match zz_site X r.2.1 r.2.2.2.2.1 r.2.2.2.2.2 st h with
            | none => none
            | some (as, rest) => match P r.2.2.2.1 with
              | none => none
              | some M' => if r.2.2.1 = 3 ∧ zz_words as ≤ M'.1.2.2.1 then match zz_run P tf fd X n d' M' 0 (lv_args 0 as) [] h with
                  | none => none
                  | some (.inl v, h') => zz_run P tf fd X n (d' + 1) M (pc + 3) lv (v.toList ++ rest) h'
                  | some (.inr q, h') => if r.2.2.2.2.2 = 5 then some (.inr q, h') else if r.2.2.2.2.2 = 2005 then some (.inl none, h') else none
                else none
/-- a method's code, as the tables say it: with its handlers, if it has some -/
def zz_cw (hh : MethodName → List (Nat × Nat × Nat × Nat)) (M : zz_M) : Cond := match hh M.1.1 with
  | [] => .code M.1.1 M.1.2.1 M.1.2.2.1 M.1.2.2.2
  | q :: l => .codeWith M.1.1 M.1.2.1 M.1.2.2.1 M.1.2.2.2 (q :: l)
/-- what the tables must say for a call -/
def zz_mB (Ts : List Cond) (own : String) (idx : Nat) (y : MethodName) (cd : ByteArray) (n : Nat) (ret : FieldType) : Prop := Cond.methodLink own idx y ∈ Ts ∧ Cond.static y ∈ Ts ∧ Cond.initialized "java/lang/Math" ∈ Ts ∧ Cond.code y cd n (some ret) ∈ Ts
def zz_okC (hh : MethodName → List (Nat × Nat × Nat × Nat)) (P : Nat → Option zz_M) (cl : List vw_C) (Ts NW : List Cond) (own : String) (r : zz_N) : Prop := match r.2.1 with
  | .invokevirtual idx => ∃ M' : zz_M, P r.2.2.2.1 = some M' ∧ (parseMethodDescriptor M'.1.1.desc).map (fun d => d.parameters.length) = some r.2.2.2.2.1 ∧ Cond.instanceMethod M'.1.1 ∈ Ts ∧
    ((Cond.selects M'.1.1.cls M'.1.1 M'.1.1 ∈ Ts ∧ (∀ (ci : Nat) (q : vw_C), ((ci : Int) = r.2.2.2.2.2 ∨ (ci : Int) + 1000 = r.2.2.2.2.2 ∨ (ci : Int) + 2000 = r.2.2.2.2.2) → cl[ci]? = some q → q.1 = M'.1.1.cls) ∧ (∀ ci : Nat, 20 ≤ ci → ((ci : Int) = r.2.2.2.2.2 ∨ (ci : Int) + 1000 = r.2.2.2.2.2 ∨ (ci : Int) + 2000 = r.2.2.2.2.2) → zx_cn ci = M'.1.1.cls) ∧ ((Cond.methodLink own idx M'.1.1 ∈ Ts) ∨ (hh M'.1.1 = [] ∧ ∃ host, Cond.methodLinkNest own idx M'.1.1 host ∈ NW))) ∨
     (hh M'.1.1 = [] ∧ r.2.2.2.2.2 = 20 ∧ ∀ w ∈ va_wsU own idx "TallySlate$Word" M'.1.1.cls ⟨"TallySlate$Word", M'.1.1.name, M'.1.1.desc⟩ M'.1.1 [], w ∈ Ts))
  | .invokestatic idx => if r.2.2.2.2.2 = -1 then Cond.methodLink own idx arraycopyName ∈ Ts ∧ Cond.native arraycopyName ∈ Ts ∧ Cond.static arraycopyName ∈ Ts ∧ Cond.initialized "java/lang/System" ∈ Ts else if r.2.2.2.2.2 = -2 then zz_mB Ts own idx Lib.Math.min.name Lib.Math.min.code 2 .int else if r.2.2.2.2.2 = -3 then zz_mB Ts own idx Lib.Math.max.name Lib.Math.max.code 2 .int else if r.2.2.2.2.2 = -4 then zz_mB Ts own idx Lib.MathLoose.abs_long.x Lib.MathLoose.abs_long.code 2 .long else if r.2.2.2.2.2 = -5 then zz_mB Ts own idx Lib.MathLoose.min_long.x Lib.MathLoose.min_long.code 4 .long else if r.2.2.2.2.2 = -6 then zz_mB Ts own idx Lib.MathLoose.max_long.x Lib.MathLoose.max_long.code 4 .long else ∃ M' : zz_M, P r.2.2.2.1 = some M' ∧ (parseMethodDescriptor M'.1.1.desc).map (fun d => d.parameters.length) = some r.2.2.2.2.1 ∧ hh M'.1.1 = [] ∧ Cond.static M'.1.1 ∈ Ts ∧ ((Cond.methodLink own idx M'.1.1 ∈ Ts) ∨ (hh M'.1.1 = [] ∧ ∃ host, Cond.methodLinkNest own idx M'.1.1 host ∈ NW))
  | .invokespecial idx => if r.2.2.2.2.2 = -1 then Cond.methodLink own idx Lib.objectInit ∈ Ts ∧ Cond.instanceMethod Lib.objectInit ∈ Ts ∧ Cond.code Lib.objectInit ⟨#[0xb1]⟩ 1 none ∈ Ts else ∃ M' : zz_M, P r.2.2.2.1 = some M' ∧ (parseMethodDescriptor M'.1.1.desc).map (fun d => d.parameters.length) = some r.2.2.2.2.1 ∧ M'.1.1.name = "<init>" ∧ M'.1.2.2.2 = none ∧ hh M'.1.1 = [] ∧ Cond.instanceMethod M'.1.1 ∈ Ts ∧ ((Cond.methodLink own idx M'.1.1 ∈ Ts) ∨ (hh M'.1.1 = [] ∧ ∃ host, Cond.methodLinkNest own idx M'.1.1 host ∈ NW))
  | _ => True
/-- what the code must be around a throw, and around a call within a try -/
def zz_ise : String := "java/lang/IllegalStateException"
def zz_okT (hh : MethodName → List (Nat × Nat × Nat × Nat)) (P : Nat → Option zz_M) (Ts NW : List Cond) (M : zz_M) (r : zz_N) : Prop :=
  (zz_cls r = 3 → ∃ ik ic : Nat, r.2.1 = .new ik ∧ r.2.2.1 = 3 ∧ decode M.1.2.1 (r.1 + 3) = .ok (.dup, 1) ∧ decode M.1.2.1 (r.1 + 4) = .ok (.ldc_w 276, 3) ∧ decode M.1.2.1 (r.1 + 7) = .ok (.invokespecial ic, 3) ∧ decode M.1.2.1 (r.1 + 10) = .ok (.athrow, 1) ∧ M.1.1.cls = "TallySlate$Parser" ∧ hh M.1.1 = [] ∧ Cond.classLink M.1.1.cls ik zz_ise ∈ Ts ∧ Cond.initialized zz_ise ∈ Ts ∧ ∀ w ∈ vx_atS M.1.1.cls ic zz_ise ["java/lang/RuntimeException", "java/lang/Exception"], w ∈ Ts ∨ (w ∈ NW ∧ w.onTables = true)) ∧
  (zz_cls r = 2 → r.2.2.2.2.2 = 5 ∨ r.2.2.2.2.2 = 2005 → ∃ (idx : Nat) (M' : zz_M), r.2.1 = .invokevirtual idx ∧ P r.2.2.2.1 = some M' ∧ hh M'.1.1 = [] ∧ M'.1.1.cls = "TallySlate$Parser" ∧ Cond.methodLink M.1.1.cls idx M'.1.1 ∈ Ts ∧ Cond.instanceMethod M'.1.1 ∈ Ts ∧ Cond.selects M'.1.1.cls M'.1.1 M'.1.1 ∈ Ts ∧ (parseMethodDescriptor M'.1.1.desc).map (fun d => d.parameters.length) = some r.2.2.2.2.1) ∧
  (zz_cls r = 2 → r.2.2.2.2.2 = 5 → ∀ x ∈ tableOf (hh M.1.1), covers x r.1 = false) ∧
  (zz_cls r = 2 → r.2.2.2.2.2 = 2005 → ∃ x : ExceptionTableEntry, tableOf (hh M.1.1) = [x] ∧ covers x r.1 = true ∧ x.catchType ≠ 0 ∧ Cond.classLink M.1.1.cls x.catchType zz_ise ∈ Ts ∧ Cond.castable zz_ise zz_ise ∈ NW ∧ M.1.2.2.2 = none ∧ ∃ k : Nat, k < M.1.2.2.1 ∧ decode M.1.2.1 x.handlerPc = .ok (.astore k, 2) ∧ decode M.1.2.1 (x.handlerPc + 2) = .ok (.return_, 1))
def zz_okW (hh : MethodName → List (Nat × Nat × Nat × Nat)) (P : Nat → Option zz_M) (cl : List vw_C) (tf : Nat → Nat → FieldType) (fd : Nat → List Value) (nf : Nat → Nat) (Ts NW : List Cond) (M : zz_M) : Prop := ∀ c ∈ M.2, ∀ r ∈ c.2, decode M.1.2.1 r.1 = .ok (r.2.1, r.2.2.1) ∧ zz_okR cl tf fd nf Ts NW M.1.1.cls M.1.1.name r ∧ zz_okC hh P cl Ts NW M.1.1.cls r ∧ zz_okT hh P Ts NW M r
def zz_okM (hh : MethodName → List (Nat × Nat × Nat × Nat)) (P : Nat → Option zz_M) (cl : List vw_C) (tf : Nat → Nat → FieldType) (fd : Nat → List Value) (nf : Nat → Nat) (Ts NW : List Cond) (M : zz_M) : Prop :=
  zz_okW hh P cl tf fd nf Ts NW M ∧
  zz_cw hh M ∈ Ts ∧ Cond.initialized M.1.1.cls ∈ Ts ∧ plainName M.1.1.cls = true ∧ (M.1.1.cls ≠ "java/lang/invoke/MethodHandle" ∧ M.1.1.cls ≠ "java/lang/invoke/VarHandle") ∧ M.1.2.2.1 ≤ 40
theorem zz_args_v (B : Nat) (O : Nat → Nat) : ∀ (as : List Value) (i : Nat), zz_l B O (lv_args i as) = lv_args i (as.map (zz_v B O))
  | [], _ => rfl
  | v :: vs, i => by
    show (i, zz_v B O v) :: zz_l B O (lv_args (if v.category = 2 then i + 2 else i + 1) vs) = (i, zz_v B O v) :: lv_args (if (zz_v B O v).category = 2 then i + 2 else i + 1) (vs.map (zz_v B O))
    rw [zz_v_cat, zz_args_v B O vs]
theorem zz_words_sl : ∀ vs : List Value, (lg_sl vs).length = zz_words vs
  | [] => rfl
  | v :: vs => by
    have ih := zz_words_sl vs
    unfold lg_sl zz_words at *
    rw [List.flatMap_cons, List.length_append, ih, List.map_cons, List.sum_cons]
    rcases lv_cat v with h | h <;> simp [h]
theorem zz_words_v (B : Nat) (O : Nat → Nat) (vs : List Value) : zz_words (vs.map (zz_v B O)) = zz_words vs := by
  unfold zz_words
  rw [List.map_map]
  congr 1
  exact List.map_congr_left (fun v _ => zz_v_cat B O v)
/-- the heap never shrinks -/
theorem zz_step1_mono {tf : Nat → Nat → FieldType} {fd : Nat → List Value} {X : Nat → Option zz_C} {nL : Nat} {r : zz_N} {pc : Nat} {lv : List (Nat × Value)} {st : List Value} {h h' : zz_H} {f' : zz_F} (nf : Nat → Nat) (hs : zz_step1 tf fd X nL r pc lv st h = some (f', h')) : h.length ≤ h'.length ∧ zz_sl nf h ≤ zz_sl nf h' := by
  obtain ⟨pc0, ins, ln, na, nb, nn⟩ := r
  cases ins
  case getfield =>
    simp only [zz_step1] at hs
    split at hs
    · unfold zz_getf at hs
      repeat (split at hs <;> try cases hs)
      exact ⟨Nat.le_refl _, Nat.le_refl _⟩
    · unfold zz_getx at hs
      repeat (split at hs <;> try cases hs)
      exact ⟨Nat.le_refl _, Nat.le_refl _⟩
  case getstatic =>
    simp only [zz_step1] at hs
    unfold zz_gets at hs
    repeat (split at hs <;> try cases hs)
    exact ⟨Nat.le_refl _, Nat.le_refl _⟩
  case ldc =>
    simp only [zz_step1] at hs
    split at hs
    · have hs := (zz_wh_ok hs).2
      subst hs
      exact ⟨Nat.le_refl _, Nat.le_refl _⟩
    · have hs := (zz_wh_ok hs).2
      subst hs
      exact ⟨Nat.le_refl _, Nat.le_refl _⟩
  case iaload =>
    simp only [zz_step1] at hs
    unfold zz_iald at hs
    repeat (split at hs <;> try cases hs)
    exact ⟨Nat.le_refl _, Nat.le_refl _⟩
  case laload =>
    simp only [zz_step1] at hs
    unfold zz_lald at hs
    repeat (split at hs <;> try cases hs)
    exact ⟨Nat.le_refl _, Nat.le_refl _⟩
  case baload =>
    simp only [zz_step1] at hs
    unfold zz_bald at hs
    repeat (split at hs <;> try cases hs)
    exact ⟨Nat.le_refl _, Nat.le_refl _⟩
  case aaload =>
    simp only [zz_step1] at hs
    unfold zz_aald at hs
    repeat (split at hs <;> try cases hs)
    exact ⟨Nat.le_refl _, Nat.le_refl _⟩
  case arraylength =>
    simp only [zz_step1] at hs
    unfold zz_alen at hs
    repeat (split at hs <;> try cases hs)
    exact ⟨Nat.le_refl _, Nat.le_refl _⟩
  case putfield =>
    simp only [zz_step1] at hs
    unfold zz_putf at hs
    repeat (split at hs <;> try cases hs)
    refine ⟨by rw [List.length_set]; exact Nat.le_refl _, Nat.le_of_eq (zz_sl_set (zz_at_ok (by assumption)).2 ?_).symm⟩
    rfl
  case iastore =>
    simp only [zz_step1] at hs
    unfold zz_iast at hs
    repeat (split at hs <;> try cases hs)
    refine ⟨by rw [List.length_set]; exact Nat.le_refl _, Nat.le_of_eq (zz_sl_set (zz_at_ok (by assumption)).2 ?_).symm⟩
    rfl
  case lastore =>
    simp only [zz_step1] at hs
    unfold zz_last at hs
    repeat (split at hs <;> try cases hs)
    refine ⟨by rw [List.length_set]; exact Nat.le_refl _, Nat.le_of_eq (zz_sl_set (zz_at_ok (by assumption)).2 ?_).symm⟩
    rfl
  case bastore =>
    simp only [zz_step1] at hs
    unfold zz_bast at hs
    repeat (split at hs <;> try cases hs)
    refine ⟨by rw [List.length_set]; exact Nat.le_refl _, Nat.le_of_eq (zz_sl_set (zz_at_ok (by assumption)).2 ?_).symm⟩
    rfl
  case aastore =>
    simp only [zz_step1] at hs
    split at hs
    · unfold zz_aast2 at hs
      repeat (split at hs <;> try cases hs)
      refine ⟨by rw [List.length_set]; exact Nat.le_refl _, Nat.le_of_eq (zz_sl_set (zz_at_ok (by assumption)).2 ?_).symm⟩
      rfl
    · unfold zz_aast at hs
      repeat (split at hs <;> try cases hs)
      refine ⟨by rw [List.length_set]; exact Nat.le_refl _, Nat.le_of_eq (zz_sl_set (zz_at_ok (by assumption)).2 ?_).symm⟩
      rfl
  case multianewarray =>
    simp only [zz_step1] at hs
    unfold zz_mna at hs
    repeat (split at hs <;> try cases hs)
    exact ⟨by rw [List.length_append]; exact Nat.le_add_right _ _, by rw [zz_sl_apps]; exact Nat.le_add_right _ _⟩
  case new =>
    simp only [zz_step1] at hs
    split at hs
    · cases hs
    unfold zz_new at hs
    repeat (split at hs <;> try cases hs)
    exact ⟨by rw [List.length_append]; exact Nat.le_add_right _ _, by rw [zz_sl_app]; exact Nat.le_add_right _ _⟩
  case newarray =>
    simp only [zz_step1] at hs
    unfold zz_newa at hs
    repeat (split at hs <;> try cases hs)
    exact ⟨by rw [List.length_append]; exact Nat.le_add_right _ _, by rw [zz_sl_app]; exact Nat.le_add_right _ _⟩
  case anewarray =>
    simp only [zz_step1] at hs
    unfold zz_anew at hs
    repeat (split at hs <;> try cases hs)
    exact ⟨by rw [List.length_append]; exact Nat.le_add_right _ _, by rw [zz_sl_app]; exact Nat.le_add_right _ _⟩
  all_goals (
    simp only [zz_step1] at hs
    have hs := (zz_wh_ok hs).2
    subst hs
    exact ⟨Nat.le_refl _, Nat.le_refl _⟩)
theorem zz_acp_mono {st st' : List Value} {h h' : zz_H} (nf : Nat → Nat) (hs : zz_acp st h = some (st', h')) : h'.length = h.length ∧ zz_sl nf h' = zz_sl nf h := by
  unfold zz_acp at hs
  split at hs
  · split at hs
    · rename_i ha
      split at hs
      · cases hs
        refine ⟨List.length_set, zz_sl_set (zz_at_ok ha).2 ?_⟩
        rfl
      · cases hs
    · rename_i ha
      split at hs
      · cases hs
        refine ⟨List.length_set, zz_sl_set (zz_at_ok ha).2 ?_⟩
        rfl
      · cases hs
    · rename_i ha
      split at hs
      · cases hs
        refine ⟨List.length_set, zz_sl_set (zz_at_ok ha).2 ?_⟩
        rfl
      · cases hs
    · cases hs
  · cases hs
theorem zz_ret_same {ret : Option FieldType} {ins : Instr} {ln : Nat} {st : List Value} {h h' : zz_H} {v : Option Value} (hs : zz_ret ret ins ln st h = some (v, h')) : h' = h := by
  unfold zz_ret at hs
  split at hs
  all_goals first
    | (split at hs
       · split at hs
         · cases hs
           rfl
         · cases hs
       · cases hs)
    | cases hs
theorem zz_spec_mono {ins : Instr} {nn : Int} {st st' : List Value} {h h' : zz_H} (nf : Nat → Nat) (hs : zz_spec ins nn st h = some (st', h')) : h.length ≤ h'.length ∧ zz_sl nf h ≤ zz_sl nf h' := by
  unfold zz_spec at hs
  split at hs
  · split at hs
    · split at hs
      · cases hs
        exact ⟨Nat.le_refl _, Nat.le_refl _⟩
      · cases hs
    · cases hs
  · split at hs
    · have := zz_acp_mono nf hs
      exact ⟨Nat.le_of_eq this.1.symm, Nat.le_of_eq this.2.symm⟩
    · split at hs
      · cases hs
        exact ⟨Nat.le_refl _, Nat.le_refl _⟩
      · cases hs
  · cases hs
theorem zz_run_mono {P : Nat → Option zz_M} {tf : Nat → Nat → FieldType} {fd : Nat → List Value} {X : Nat → Option zz_C} (nf : Nat → Nat) : ∀ (n d : Nat) (M : zz_M) (pc : Nat) (lv : List (Nat × Value)) (st : List Value) (h hf : zz_H) (v : zz_O), zz_run P tf fd X n d M pc lv st h = some (v, hf) → h.length ≤ hf.length ∧ zz_sl nf h ≤ zz_sl nf hf := by
  intro n
  induction n with
  | zero => intro d M pc lv st h hf v hr; cases hr
  | succ n ih =>
    intro d M pc lv st h hf v hr
    unfold zz_run at hr
    split at hr
    · cases hr
    · rename_i r hrow
      split at hr
      · split at hr
        · rename_i f' h' hs
          have h1 := zz_step1_mono nf hs
          have h2 := ih _ _ _ _ _ _ _ _ hr
          exact ⟨Nat.le_trans h1.1 h2.1, Nat.le_trans h1.2 h2.2⟩
        · cases hr
      · split at hr
        · rename_i v1 h1 hs
          have := zz_ret_same hs
          subst this
          cases hr
          exact ⟨Nat.le_refl _, Nat.le_refl _⟩
        · cases hr
      · split at hr
        · cases hr
          exact ⟨by rw [List.length_append]; exact Nat.le_add_right _ _, by rw [zz_sl_app]; exact Nat.le_add_right _ _⟩
        · cases hr
      · split at hr
        · cases hr
        · rename_i d'
          split at hr
          · split at hr
            · rename_i st' h' hs
              split at hr
              · have h1 := zz_spec_mono nf hs
                have h2 := ih _ _ _ _ _ _ _ _ hr
                exact ⟨Nat.le_trans h1.1 h2.1, Nat.le_trans h1.2 h2.2⟩
              · cases hr
            · cases hr
          · split at hr
            · cases hr
            · rename_i as rest hs
              split at hr
              · cases hr
              · rename_i M' hM
                split at hr
                · split at hr
                  · cases hr
                  · rename_i v1 h1 hc
                    have k1 := ih _ _ _ _ _ _ _ _ hc
                    have k2 := ih _ _ _ _ _ _ _ _ hr
                    exact ⟨Nat.le_trans k1.1 k2.1, Nat.le_trans k1.2 k2.2⟩
                  · rename_i q1 h1 hc
                    have k1 := ih _ _ _ _ _ _ _ _ hc
                    split at hr
                    · cases hr
                      exact k1
                    · split at hr
                      · cases hr
                        exact k1
                      · cases hr
                · cases hr
