/-! ===== THE MACHINE IN LITTLE: cells by numbers, an instruction a row; what it does the machine does ===== -/
/-- a cell: an array (its kind's number, its contents) or an object (its class's number, its fields); a reference is a cell's number -/
abbrev zz_C : Type := (Nat × vp_A) ⊕ (Nat × List Value)
abbrev zz_H : Type := List zz_C
/-- place, locals, stack -/
abbrev zz_F : Type := Nat × List (Nat × Value) × List Value
/-- numbers from here on are cells outside: the script, and what the classes' statics hold -/
def zz_out : Nat := 1048576
/-- where a cell lies -/
def zz_a (B : Nat) (O : Nat → Nat) (k : Nat) : Nat := if k < zz_out then B + k else O (k - zz_out)
def zz_v (B : Nat) (O : Nat → Nat) : Value → Value
  | .ref k => .ref (zz_a B O k)
  | .int x => .int x
  | .long x => .long x
  | .float x => .float x
  | .double x => .double x
  | .null => .null
  | .retAddr x => .retAddr x
theorem zz_v_cat (B : Nat) (O : Nat → Nat) (v : Value) : (zz_v B O v).category = v.category := by cases v <;> rfl
def zz_l (B : Nat) (O : Nat → Nat) (lv : List (Nat × Value)) : List (Nat × Value) := lv.map fun q => (q.1, zz_v B O q.2)
def zz_s (B : Nat) (O : Nat → Nat) (st : List Value) : List Value := st.map (zz_v B O)
def zz_ld (i : Nat) (lv : List (Nat × Value)) : Option Value := (lv.find? (fun q => q.1 == i)).map (fun q => q.2)
def zz_st1 (i : Nat) (v : Value) (lv : List (Nat × Value)) : List (Nat × Value) := (i, v) :: lv.filter (fun q => !(q.1 == i) && !(q.1 + 1 == i && q.2.category == 2))
def zz_st2 (i : Nat) (v : Value) (lv : List (Nat × Value)) : List (Nat × Value) := (i, v) :: lv.filter (fun q => !(q.1 == i) && (!(q.1 == i + 1) && !(q.1 + 1 == i && q.2.category == 2)))
theorem zz_ld_mem {i : Nat} {lv : List (Nat × Value)} {v : Value} (h : zz_ld i lv = some v) : (i, v) ∈ lv := by
  unfold zz_ld at h
  cases hf : lv.find? (fun q => q.1 == i) with
  | none => rw [hf] at h; cases h
  | some q =>
    rw [hf] at h
    have h1 := List.find?_some hf
    have h2 := List.mem_of_find?_eq_some hf
    simp at h h1
    obtain ⟨a, b⟩ := q
    simp at h h1
    subst h; subst h1
    exact h2
theorem zz_ld_at {B : Nat} {O : Nat → Nat} {i nL : Nat} {lv : List (Nat × Value)} {v : Value} {ls : Array Slot} (h : zz_ld i lv = some v) (hl : lv_has ls nL (zz_l B O lv)) : ls[i]? = some (.val (zz_v B O v)) :=
  hl.2.2 (i, zz_v B O v) (List.mem_map.mpr ⟨(i, v), zz_ld_mem h, rfl⟩)
theorem zz_l_st1 (B : Nat) (O : Nat → Nat) (i : Nat) (v : Value) (lv : List (Nat × Value)) : (i, zz_v B O v) :: (zz_l B O lv).filter (fun q => !(q.1 == i) && !(q.1 + 1 == i && q.2.category == 2)) = zz_l B O (zz_st1 i v lv) := by
  unfold zz_l zz_st1
  rw [List.map_cons, List.filter_map]
  congr 2
  apply List.filter_congr
  intro q _
  simp [zz_v_cat]
theorem zz_l_st2 (B : Nat) (O : Nat → Nat) (i : Nat) (v : Value) (lv : List (Nat × Value)) : (i, zz_v B O v) :: (zz_l B O lv).filter (fun q => !(q.1 == i) && (!(q.1 == i + 1) && !(q.1 + 1 == i && q.2.category == 2))) = zz_l B O (zz_st2 i v lv) := by
  unfold zz_l zz_st2
  rw [List.map_cons, List.filter_map]
  congr 2
  apply List.filter_congr
  intro q _
  simp [zz_v_cat]
/-! the instructions that touch no cell -/
def zz_push (k ln pc : Nat) (lv : List (Nat × Value)) (st : List Value) (v : Value) : Option zz_F := if ln = k then some (pc + k, lv, v :: st) else none
def zz_ldi (k i ln pc : Nat) (lv : List (Nat × Value)) (st : List Value) : Option zz_F := match zz_ld i lv with
  | some (.int x) => if ln = k then some (pc + k, lv, .int x :: st) else none
  | _ => none
def zz_ldl (k i ln pc : Nat) (lv : List (Nat × Value)) (st : List Value) : Option zz_F := match zz_ld i lv with
  | some (.long x) => if ln = k then some (pc + k, lv, .long x :: st) else none
  | _ => none
def zz_lda (k i ln pc : Nat) (lv : List (Nat × Value)) (st : List Value) : Option zz_F := match zz_ld i lv with
  | some (.ref x) => if ln = k then some (pc + k, lv, .ref x :: st) else none
  | _ => none
def zz_sti (nL k i ln pc : Nat) (lv : List (Nat × Value)) (st : List Value) : Option zz_F := match st with
  | .int x :: r => if ln = k ∧ i < nL then some (pc + k, zz_st1 i (.int x) lv, r) else none
  | _ => none
def zz_stl (nL k i ln pc : Nat) (lv : List (Nat × Value)) (st : List Value) : Option zz_F := match st with
  | .long x :: r => if ln = k ∧ i + 1 < nL then some (pc + k, zz_st2 i (.long x) lv, r) else none
  | _ => none
def zz_sta (nL k i ln pc : Nat) (lv : List (Nat × Value)) (st : List Value) : Option zz_F := match st with
  | .ref x :: r => if ln = k ∧ i < nL then some (pc + k, zz_st1 i (.ref x) lv, r) else none
  | _ => none
def zz_inc (nL i : Nat) (n : Int) (ln pc : Nat) (lv : List (Nat × Value)) (st : List Value) : Option zz_F := match zz_ld i lv with
  | some (.int x) => if ln = 3 ∧ i < nL then some (pc + 3, zz_st1 i (.int (x + Int32.ofInt n)) lv, st) else none
  | _ => none
def zz_ii (g : Int32 → Int32 → Int32) (ln pc : Nat) (lv : List (Nat × Value)) (st : List Value) : Option zz_F := match st with
  | .int y :: .int x :: r => if ln = 1 then some (pc + 1, lv, .int (g x y) :: r) else none
  | _ => none
def zz_iid (g : Int32 → Int32 → Int32) (ln pc : Nat) (lv : List (Nat × Value)) (st : List Value) : Option zz_F := match st with
  | .int y :: .int x :: r => if ln = 1 ∧ ¬ y = 0 then some (pc + 1, lv, .int (g x y) :: r) else none
  | _ => none
def zz_ll (g : Int64 → Int64 → Int64) (ln pc : Nat) (lv : List (Nat × Value)) (st : List Value) : Option zz_F := match st with
  | .long y :: .long x :: r => if ln = 1 then some (pc + 1, lv, .long (g x y) :: r) else none
  | _ => none
def zz_lld (g : Int64 → Int64 → Int64) (ln pc : Nat) (lv : List (Nat × Value)) (st : List Value) : Option zz_F := match st with
  | .long y :: .long x :: r => if ln = 1 ∧ ¬ y = 0 then some (pc + 1, lv, .long (g x y) :: r) else none
  | _ => none
def zz_li (g : Int64 → Int32 → Int64) (ln pc : Nat) (lv : List (Nat × Value)) (st : List Value) : Option zz_F := match st with
  | .int y :: .long x :: r => if ln = 1 then some (pc + 1, lv, .long (g x y) :: r) else none
  | _ => none
def zz_i1 (g : Int32 → Value) (ln pc : Nat) (lv : List (Nat × Value)) (st : List Value) : Option zz_F := match st with
  | .int x :: r => if ln = 1 then some (pc + 1, lv, g x :: r) else none
  | _ => none
def zz_l1 (g : Int64 → Value) (ln pc : Nat) (lv : List (Nat × Value)) (st : List Value) : Option zz_F := match st with
  | .long x :: r => if ln = 1 then some (pc + 1, lv, g x :: r) else none
  | _ => none
def zz_llc (g : Int64 → Int64 → Int32) (ln pc : Nat) (lv : List (Nat × Value)) (st : List Value) : Option zz_F := match st with
  | .long y :: .long x :: r => if ln = 1 then some (pc + 1, lv, .int (g x y) :: r) else none
  | _ => none
def zz_dup (ln pc : Nat) (lv : List (Nat × Value)) (st : List Value) : Option zz_F := match st with
  | x :: r => if ln = 1 ∧ x.category = 1 then some (pc + 1, lv, x :: x :: r) else none
  | _ => none
def zz_pop (ln pc : Nat) (lv : List (Nat × Value)) (st : List Value) : Option zz_F := match st with
  | x :: r => if ln = 1 ∧ x.category = 1 then some (pc + 1, lv, r) else none
  | _ => none
def zz_dup_x1 (ln pc : Nat) (lv : List (Nat × Value)) (st : List Value) : Option zz_F := match st with
  | x :: y :: r => if ln = 1 ∧ x.category = 1 ∧ y.category = 1 then some (pc + 1, lv, x :: y :: x :: r) else none
  | _ => none
def zz_dup_x2 (ln pc : Nat) (lv : List (Nat × Value)) (st : List Value) : Option zz_F := match st with
  | x :: y :: z :: r => if ln = 1 ∧ x.category = 1 ∧ y.category = 1 ∧ z.category = 1 then some (pc + 1, lv, x :: y :: z :: x :: r) else none
  | _ => none
def zz_dup2 (ln pc : Nat) (lv : List (Nat × Value)) (st : List Value) : Option zz_F := match st with
  | .long x :: r => if ln = 1 then some (pc + 1, lv, .long x :: .long x :: r) else none
  | x :: y :: r => if ln = 1 ∧ x.category = 1 ∧ y.category = 1 then some (pc + 1, lv, x :: y :: x :: y :: r) else none
  | _ => none
def zz_pop2 (ln pc : Nat) (lv : List (Nat × Value)) (st : List Value) : Option zz_F := match st with
  | .long _ :: r => if ln = 1 then some (pc + 1, lv, r) else none
  | x :: y :: r => if ln = 1 ∧ x.category = 1 ∧ y.category = 1 then some (pc + 1, lv, r) else none
  | _ => none
def zz_dup2_x1 (ln pc : Nat) (lv : List (Nat × Value)) (st : List Value) : Option zz_F := match st with
  | .long x :: y :: r => if ln = 1 ∧ y.category = 1 then some (pc + 1, lv, .long x :: y :: .long x :: r) else none
  | _ => none
def zz_dup2_x2 (ln pc : Nat) (lv : List (Nat × Value)) (st : List Value) : Option zz_F := match st with
  | .long x :: y :: z :: r => if ln = 1 ∧ y.category = 1 ∧ z.category = 1 then some (pc + 1, lv, .long x :: y :: z :: .long x :: r) else none
  | _ => none
/-- a jump's end: never below 0 -/
def zz_to (pc : Nat) (off : Int) : Nat := ((pc : Int) + off).toNat
def zz_cond : ClassFile.Cond → Int32 → Int32 → Bool
  | .eq, x, y => decide (x = y)
  | .ne, x, y => !decide (x = y)
  | .lt, x, y => decide (x < y)
  | .ge, x, y => decide (y ≤ x)
  | .gt, x, y => decide (y < x)
  | .le, x, y => decide (x ≤ y)
def zz_jump (b : Bool) (off : Int) (pc : Nat) (lv : List (Nat × Value)) (st : List Value) : Option zz_F := match b with
  | true => if 0 ≤ (pc : Int) + off then some (zz_to pc off, lv, st) else none
  | false => if 0 ≤ (pc : Int) + off then some (pc + 3, lv, st) else none
def zz_if (cd : ClassFile.Cond) (off : Int) (ln pc : Nat) (lv : List (Nat × Value)) (st : List Value) : Option zz_F := match st with
  | .int x :: r => if ln = 3 then zz_jump (zz_cond cd x 0) off pc lv r else none
  | _ => none
def zz_icmp (cd : ClassFile.Cond) (off : Int) (ln pc : Nat) (lv : List (Nat × Value)) (st : List Value) : Option zz_F := match st with
  | .int y :: .int x :: r => if ln = 3 then zz_jump (zz_cond cd x y) off pc lv r else none
  | _ => none
def zz_goto (off : Int) (ln pc : Nat) (lv : List (Nat × Value)) (st : List Value) : Option zz_F := if ln = 3 then zz_jump true off pc lv st else none
def zz_null (b : Bool) (off : Int) (ln pc : Nat) (lv : List (Nat × Value)) (st : List Value) : Option zz_F := match st with
  | .null :: r => if ln = 3 then zz_jump b off pc lv r else none
  | .ref _ :: r => if ln = 3 then zz_jump (!b) off pc lv r else none
  | _ => none
def zz_table (dflt lo hi : Int) (offs : Array Int) (pc : Nat) (lv : List (Nat × Value)) (st : List Value) : Option zz_F := match st with
  | .int x :: r => match decide (x.toInt < lo ∨ hi < x.toInt) with
    | true => if 0 ≤ (pc : Int) + dflt then some (zz_to pc dflt, lv, r) else none
    | false => match offs[(x.toInt - lo).toNat]? with
      | some off => if 0 ≤ (pc : Int) + off then some (zz_to pc off, lv, r) else none
      | none => none
  | _ => none
def zz_look (dflt : Int) (ps : Array (Int × Int)) (pc : Nat) (lv : List (Nat × Value)) (st : List Value) : Option zz_F := match st with
  | .int x :: r => if (ps.toList.zip (ps.toList.drop 1)).all (fun (a, next) => a.1 < next.1) = true ∧ 0 ≤ (pc : Int) + Op.lookupswitch.offset ps.toList dflt x.toInt then some (zz_to pc (Op.lookupswitch.offset ps.toList dflt x.toInt), lv, r) else none
  | _ => none
def zz_p (nL : Nat) (ins : Instr) (ln pc : Nat) (lv : List (Nat × Value)) (st : List Value) : Option zz_F := match ins with
  | .iconst n => zz_push 1 ln pc lv st (.int (Int32.ofInt n))
  | .bipush n => zz_push 2 ln pc lv st (.int (Int8.ofInt n).toInt32)
  | .sipush n => zz_push 3 ln pc lv st (.int (Int16.ofInt n).toInt32)
  | .lconst n => zz_push 1 ln pc lv st (.long (Int64.ofNat (n : Nat)))
  | .aconst_null => zz_push 1 ln pc lv st .null
  | .iload_n k => zz_ldi 1 k ln pc lv st
  | .iload i => zz_ldi 2 i ln pc lv st
  | .lload_n k => zz_ldl 1 k ln pc lv st
  | .lload i => zz_ldl 2 i ln pc lv st
  | .aload_n k => zz_lda 1 k ln pc lv st
  | .aload i => zz_lda 2 i ln pc lv st
  | .istore_n k => zz_sti nL 1 k ln pc lv st
  | .istore i => zz_sti nL 2 i ln pc lv st
  | .lstore_n k => zz_stl nL 1 k ln pc lv st
  | .lstore i => zz_stl nL 2 i ln pc lv st
  | .astore_n k => zz_sta nL 1 k ln pc lv st
  | .astore i => zz_sta nL 2 i ln pc lv st
  | .iinc i n => zz_inc nL i n ln pc lv st
  | .iadd => zz_ii (fun x y => x + y) ln pc lv st
  | .isub => zz_ii (fun x y => x - y) ln pc lv st
  | .imul => zz_ii (fun x y => x * y) ln pc lv st
  | .iand => zz_ii (fun x y => x &&& y) ln pc lv st
  | .ior => zz_ii (fun x y => x ||| y) ln pc lv st
  | .ixor => zz_ii (fun x y => x ^^^ y) ln pc lv st
  | .ishl => zz_ii (fun x y => x <<< (y &&& 31)) ln pc lv st
  | .ishr => zz_ii (fun x y => x >>> (y &&& 31)) ln pc lv st
  | .iushr => zz_ii (fun x y => (x.toUInt32 >>> (y.toUInt32 &&& Int32.toUInt32 31)).toInt32) ln pc lv st
  | .idiv => zz_iid (fun x y => x / y) ln pc lv st
  | .irem => zz_iid (fun x y => x - x / y * y) ln pc lv st
  | .ineg => zz_i1 (fun x => .int (-x)) ln pc lv st
  | .ladd => zz_ll (fun x y => x + y) ln pc lv st
  | .lsub => zz_ll (fun x y => x - y) ln pc lv st
  | .lmul => zz_ll (fun x y => x * y) ln pc lv st
  | .land => zz_ll (fun x y => x &&& y) ln pc lv st
  | .lor => zz_ll (fun x y => x ||| y) ln pc lv st
  | .lxor => zz_ll (fun x y => x ^^^ y) ln pc lv st
  | .ldiv => zz_lld (fun x y => x / y) ln pc lv st
  | .lrem => zz_lld (fun x y => x - x / y * y) ln pc lv st
  | .lneg => zz_l1 (fun x => .long (-x)) ln pc lv st
  | .lushr => zz_li (fun x y => (x.toUInt64 >>> (y.toInt64.toUInt64 &&& Int64.toUInt64 63)).toInt64) ln pc lv st
  | .lshl => zz_li (fun x y => x <<< (y.toInt64 &&& 63)) ln pc lv st
  | .lshr => zz_li (fun x y => x >>> (y.toInt64 &&& 63)) ln pc lv st
  | .i2l => zz_i1 (fun x => .long x.toInt64) ln pc lv st
  | .l2i => zz_l1 (fun x => .int x.toInt32) ln pc lv st
  | .i2b => zz_i1 (fun x => .int x.toInt8.toInt32) ln pc lv st
  | .i2c => zz_i1 (fun x => .int (x.toUInt32 % 65536).toInt32) ln pc lv st
  | .lcmp => zz_llc lg_cmp ln pc lv st
  | .dup => zz_dup ln pc lv st
  | .pop => zz_pop ln pc lv st
  | .dup_x1 => zz_dup_x1 ln pc lv st
  | .dup_x2 => zz_dup_x2 ln pc lv st
  | .dup2 => zz_dup2 ln pc lv st
  | .pop2 => zz_pop2 ln pc lv st
  | .dup2_x1 => zz_dup2_x1 ln pc lv st
  | .dup2_x2 => zz_dup2_x2 ln pc lv st
  | .ifCond cd off => zz_if cd off ln pc lv st
  | .if_icmp cd off => zz_icmp cd off ln pc lv st
  | .goto off => zz_goto off ln pc lv st
  | .ifnull off => zz_null true off ln pc lv st
  | .ifnonnull off => zz_null false off ln pc lv st
  | .tableswitch dflt lo hi offs => zz_table dflt lo hi offs pc lv st
  | .lookupswitch dflt ps => zz_look dflt ps pc lv st
  | _ => none
