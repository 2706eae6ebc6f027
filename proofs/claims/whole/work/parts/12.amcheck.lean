/-! ===== the tables' words of a method's rows, checked by program ===== -/
def zz_okRb (cl : List vw_C) (tf : Nat → Nat → FieldType) (fd : Nat → List Value) (nf : Nat → Nat) (Ts NW : List Cond) (own nm : String) (r : zz_N) : Bool := match r.2.1 with
  | .getfield idx => match cl[r.2.2.2.1]? with
    | some q => decide (r.2.2.2.2.1 < q.2.2) && decide (Cond.fieldLink own idx (q.2.1 r.2.2.2.2.1).1 (q.2.1 r.2.2.2.2.1).2.1 (q.2.1 r.2.2.2.2.1).2.2.1 ∈ Ts)
    | none => false
  | .putfield idx => match cl[r.2.2.2.1]? with
    | some q => decide (r.2.2.2.2.1 < q.2.2) && (decide (Cond.fieldLink own idx (q.2.1 r.2.2.2.2.1).1 (q.2.1 r.2.2.2.2.1).2.1 (q.2.1 r.2.2.2.2.1).2.2.1 ∈ Ts) && (decide ((q.2.1 r.2.2.2.2.1).2.2.2 = false) || decide ((q.2.1 r.2.2.2.2.1).2.2.2 = true ∧ nm = "<init>" ∧ (q.2.1 r.2.2.2.2.1).1 = own)))
    | none => false
  | .new idx => match cl[r.2.2.2.1]? with
    | some q => (List.range q.2.2).all (fun j => decide (defaultValue (tf r.2.2.2.1 j) = vp_V (fd r.2.2.2.1) j)) && ((fd r.2.2.2.1).all Value.isDefault && (decide (nf r.2.2.2.1 = q.2.2) && (decide (Cond.classLink own idx q.1 ∈ Ts) && (decide (Cond.instantiable q.1 q.2.2 ∈ Ts) && decide (Cond.initialized q.1 ∈ Ts)))))
    | none => false
  | .newarray ty => decide (Cond.arrayClass (newarray.typeOf ty) ∈ Ts)
  | .anewarray idx => decide (Cond.classLink own idx "TallySlate$Shelves" ∈ Ts) && decide (Cond.arrayOver (.object "TallySlate$Shelves") ∈ NW)
  | .multianewarray idx dm => decide (dm = 2) && (decide (Cond.classLink own idx ("[" ++ (FieldType.array .int).toString) ∈ Ts) && (decide (Cond.arrayOver (.array .int) ∈ NW) && decide (Cond.arrayClass .int ∈ Ts)))
  | .ldc idx => decide (Cond.constant own idx (Int32.ofInt r.2.2.2.2.2) ∈ Ts)
  | .ldc_w idx => decide (Cond.constant own idx (Int32.ofInt r.2.2.2.2.2) ∈ Ts)
  | .ldc2_w idx => decide (Cond.constantLong own idx (Int64.ofInt r.2.2.2.2.2) ∈ Ts)
  | _ => true
theorem zz_okRb_ok {cl : List vw_C} {tf : Nat → Nat → FieldType} {fd : Nat → List Value} {nf : Nat → Nat} {Ts NW : List Cond} {own nm : String} {r : zz_N} (h : zz_okRb cl tf fd nf Ts NW own nm r = true) : zz_okR cl tf fd nf Ts NW own nm r := by
  obtain ⟨pc0, ins, ln, na, nb, nn⟩ := r
  cases ins
  case getfield idx =>
    simp only [zz_okRb] at h
    split at h
    · rename_i q hq
      simp only [Bool.and_eq_true, decide_eq_true_eq] at h
      exact ⟨q, hq, h.1, h.2⟩
    · cases h
  case putfield idx =>
    simp only [zz_okRb] at h
    split at h
    · rename_i q hq
      simp only [Bool.and_eq_true, Bool.or_eq_true, decide_eq_true_eq] at h
      exact ⟨q, hq, h.1, h.2.1, h.2.2⟩
    · cases h
  case new idx =>
    simp only [zz_okRb] at h
    split at h
    · rename_i q hq
      simp only [Bool.and_eq_true, decide_eq_true_eq] at h
      obtain ⟨h1, h2, h3, h4, h5, h6⟩ := h
      exact ⟨q, hq, fun j hj => of_decide_eq_true (List.all_eq_true.mp h1 j (List.mem_range.mpr hj)), h2, h3, h4, h5, h6⟩
    · cases h
  case newarray ty =>
    simp only [zz_okRb, decide_eq_true_eq] at h
    exact h
  case anewarray idx =>
    simp only [zz_okRb, Bool.and_eq_true, decide_eq_true_eq] at h
    exact h
  case multianewarray idx dm =>
    simp only [zz_okRb, Bool.and_eq_true, decide_eq_true_eq] at h
    exact h
  case ldc idx =>
    simp only [zz_okRb, decide_eq_true_eq] at h
    exact h
  case ldc_w idx =>
    simp only [zz_okRb, decide_eq_true_eq] at h
    exact h
  case ldc2_w idx =>
    simp only [zz_okRb, decide_eq_true_eq] at h
    exact h
  all_goals trivial
def zz_nest (NW : List Cond) (own : String) (idx : Nat) (y : MethodName) : Bool := NW.any (fun w => match w with
  | .methodLinkNest o i x _ => decide (o = own ∧ i = idx ∧ x = y)
  | _ => false)
theorem zz_nest_ok {NW : List Cond} {own : String} {idx : Nat} {y : MethodName} (h : zz_nest NW own idx y = true) : ∃ host, Cond.methodLinkNest own idx y host ∈ NW := by
  obtain ⟨w, hw, hb⟩ := List.any_eq_true.mp h
  cases w
  case methodLinkNest o i x hst =>
    obtain ⟨rfl, rfl, rfl⟩ := of_decide_eq_true hb
    exact ⟨hst, hw⟩
  all_goals (cases hb)
def zz_clsb (cl : List vw_C) (n : Int) (C : String) : Bool := match cl[n.toNat]? with
  | some q => decide (q.1 = C)
  | none => true
def zz_okCb (hh : MethodName → List (Nat × Nat × Nat × Nat)) (P : Nat → Option zz_M) (cl : List vw_C) (Ts NW : List Cond) (own : String) (r : zz_N) : Bool := match r.2.1 with
  | .invokevirtual idx => match P r.2.2.2.1 with
    | some M' => decide ((parseMethodDescriptor M'.1.1.desc).map (fun d => d.parameters.length) = some r.2.2.2.2.1) && (decide (Cond.instanceMethod M'.1.1 ∈ Ts) && (decide (Cond.selects M'.1.1.cls M'.1.1 M'.1.1 ∈ Ts) && ((zz_clsb cl r.2.2.2.2.2 M'.1.1.cls && zz_clsb cl (r.2.2.2.2.2 - 1000) M'.1.1.cls || decide (r.2.2.2.2.2 < 1000) && zz_clsb cl r.2.2.2.2.2 M'.1.1.cls) && (zz_nest NW own idx M'.1.1 && (hh M'.1.1).isEmpty || decide (Cond.methodLink own idx M'.1.1 ∈ Ts)))))
    | none => false
  | .invokestatic idx => if r.2.2.2.2.2 = -1 then decide (Cond.methodLink own idx arraycopyName ∈ Ts) && (decide (Cond.native arraycopyName ∈ Ts) && (decide (Cond.static arraycopyName ∈ Ts) && decide (Cond.initialized "java/lang/System" ∈ Ts))) else match P r.2.2.2.1 with
    | some M' => decide ((parseMethodDescriptor M'.1.1.desc).map (fun d => d.parameters.length) = some r.2.2.2.2.1) && ((hh M'.1.1).isEmpty && (decide (Cond.static M'.1.1 ∈ Ts) && (zz_nest NW own idx M'.1.1 && (hh M'.1.1).isEmpty || decide (Cond.methodLink own idx M'.1.1 ∈ Ts))))
    | none => false
  | .invokespecial idx => if r.2.2.2.2.2 = -1 then decide (Cond.methodLink own idx Lib.objectInit ∈ Ts) && (decide (Cond.instanceMethod Lib.objectInit ∈ Ts) && decide (Cond.code Lib.objectInit ⟨#[0xb1]⟩ 1 none ∈ Ts)) else match P r.2.2.2.1 with
    | some M' => decide ((parseMethodDescriptor M'.1.1.desc).map (fun d => d.parameters.length) = some r.2.2.2.2.1) && (decide (M'.1.1.name = "<init>") && (decide (M'.1.2.2.2 = none) && ((hh M'.1.1).isEmpty && (decide (Cond.instanceMethod M'.1.1 ∈ Ts) && (zz_nest NW own idx M'.1.1 && (hh M'.1.1).isEmpty || decide (Cond.methodLink own idx M'.1.1 ∈ Ts))))))
    | none => false
  | _ => true
theorem zz_okCb_ok {hh : MethodName → List (Nat × Nat × Nat × Nat)} {P : Nat → Option zz_M} {cl : List vw_C} {Ts NW : List Cond} {own : String} {r : zz_N} (h : zz_okCb hh P cl Ts NW own r = true) : zz_okC hh P cl Ts NW own r := by
  obtain ⟨pc0, ins, ln, na, nb, nn⟩ := r
  have link : ∀ (M' : zz_M) (idx : Nat), (zz_nest NW own idx M'.1.1 && (hh M'.1.1).isEmpty || decide (Cond.methodLink own idx M'.1.1 ∈ Ts)) = true → (Cond.methodLink own idx M'.1.1 ∈ Ts) ∨ (hh M'.1.1 = [] ∧ ∃ host, Cond.methodLinkNest own idx M'.1.1 host ∈ NW) := fun M' idx q => by
    rcases Bool.or_eq_true _ _ ▸ q with q | q
    · rw [Bool.and_eq_true] at q
      exact Or.inr ⟨List.isEmpty_iff.mp q.2, zz_nest_ok q.1⟩
    · exact Or.inl (of_decide_eq_true q)
  cases ins
  case invokevirtual idx =>
    simp only [zz_okCb] at h
    split at h
    · rename_i M' hP
      rw [Bool.and_eq_true, Bool.and_eq_true, Bool.and_eq_true, Bool.and_eq_true] at h
      obtain ⟨h1, h2, h3, h4, h5⟩ := h
      refine ⟨M', hP, of_decide_eq_true h1, of_decide_eq_true h2, of_decide_eq_true h3, fun ci q hci hq => ?_, link M' idx h5⟩
      have key : ∀ n : Int, (ci : Int) = n → zz_clsb cl n M'.1.1.cls = true → q.1 = M'.1.1.cls := fun n hn hb => by
        subst hn
        unfold zz_clsb at hb
        rw [Int.toNat_natCast, hq] at hb
        exact of_decide_eq_true hb
      rw [Bool.or_eq_true, Bool.and_eq_true, Bool.and_eq_true] at h4
      rcases h4 with ⟨a, b⟩ | ⟨a, b⟩
      · rcases hci with hci | hci
        · exact key _ hci a
        · exact key _ (by simp only at hci; omega) b
      · have a := of_decide_eq_true a
        rcases hci with hci | hci
        · exact key _ hci b
        · simp only at hci; omega
    · cases h
  case invokestatic idx =>
    simp only [zz_okCb] at h
    simp only [zz_okC]
    split at h
    · rename_i hn
      rw [if_pos hn]
      simp only [Bool.and_eq_true, decide_eq_true_eq] at h
      exact h
    · rename_i hn
      rw [if_neg hn]
      split at h
      · rename_i M' hP
        rw [Bool.and_eq_true, Bool.and_eq_true, Bool.and_eq_true] at h
        obtain ⟨h1, h9, h2, h3⟩ := h
        exact ⟨M', hP, of_decide_eq_true h1, List.isEmpty_iff.mp h9, of_decide_eq_true h2, link M' idx h3⟩
      · cases h
  case invokespecial idx =>
    simp only [zz_okCb] at h
    simp only [zz_okC]
    split at h
    · rename_i hn
      rw [if_pos hn]
      simp only [Bool.and_eq_true, decide_eq_true_eq] at h
      exact h
    · rename_i hn
      rw [if_neg hn]
      split at h
      · rename_i M' hP
        rw [Bool.and_eq_true, Bool.and_eq_true, Bool.and_eq_true, Bool.and_eq_true, Bool.and_eq_true] at h
        obtain ⟨h1, h2, h3, h9, h4, h5⟩ := h
        exact ⟨M', hP, of_decide_eq_true h1, of_decide_eq_true h2, of_decide_eq_true h3, List.isEmpty_iff.mp h9, of_decide_eq_true h4, link M' idx h5⟩
      · cases h
  all_goals trivial
def zz_okMb (hh : MethodName → List (Nat × Nat × Nat × Nat)) (P : Nat → Option zz_M) (cl : List vw_C) (tf : Nat → Nat → FieldType) (fd : Nat → List Value) (nf : Nat → Nat) (Ts NW : List Cond) (M : zz_M) : Bool :=
  M.2.all (fun r => zz_okRb cl tf fd nf Ts NW M.1.1.cls M.1.1.name r && zz_okCb hh P cl Ts NW M.1.1.cls r) && (decide (zz_cw hh M ∈ Ts) && (decide (Cond.initialized M.1.1.cls ∈ Ts) && (plainName M.1.1.cls && (decide (M.1.1.cls ≠ "java/lang/invoke/MethodHandle" ∧ M.1.1.cls ≠ "java/lang/invoke/VarHandle") && decide (M.1.2.2.1 ≤ 40)))))
theorem zz_okMb_ok {hh : MethodName → List (Nat × Nat × Nat × Nat)} {P : Nat → Option zz_M} {cl : List vw_C} {tf : Nat → Nat → FieldType} {fd : Nat → List Value} {nf : Nat → Nat} {Ts NW : List Cond} {M : zz_M} (hd : ∀ r ∈ M.2, decode M.1.2.1 r.1 = .ok (r.2.1, r.2.2.1)) (h : zz_okMb hh P cl tf fd nf Ts NW M = true) : zz_okM hh P cl tf fd nf Ts NW M := by
  unfold zz_okMb at h
  rw [Bool.and_eq_true, Bool.and_eq_true, Bool.and_eq_true, Bool.and_eq_true, Bool.and_eq_true] at h
  obtain ⟨h1, h2, h3, h4, h5, h6⟩ := h
  refine ⟨fun r hr => ?_, of_decide_eq_true h2, of_decide_eq_true h3, h4, of_decide_eq_true h5, of_decide_eq_true h6⟩
  have := List.all_eq_true.mp h1 r hr
  rw [Bool.and_eq_true] at this
  exact ⟨hd r hr, zz_okRb_ok this.1, zz_okCb_ok this.2⟩
