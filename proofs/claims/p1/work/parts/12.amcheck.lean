/-! ===== the tables' words of a method's rows: which they are; by program ===== -/
def zz_mW (own : String) (idx : Nat) (y : MethodName) (cd : ByteArray) (n : Nat) (ret : FieldType) : List Cond := [Cond.methodLink own idx y, Cond.static y, Cond.initialized "java/lang/Math", Cond.code y cd n (some ret)]
theorem zz_mW_ok {Ts : List Cond} {own : String} {idx : Nat} {y : MethodName} {cd : ByteArray} {n : Nat} {ret : FieldType} (h : ∀ w ∈ zz_mW own idx y cd n ret, w ∈ Ts) : zz_mB Ts own idx y cd n ret := ⟨h _ (by simp [zz_mW]), h _ (by simp [zz_mW]), h _ (by simp [zz_mW]), h _ (by simp [zz_mW])⟩
/-- the words that a row wants of the tables -/
def zz_wr (hh : MethodName → List (Nat × Nat × Nat × Nat)) (P : Nat → Option zz_M) (cl : List vw_C) (own : String) (r : zz_N) : List Cond := match r.2.1 with
  | .getfield idx => match cl[r.2.2.2.1]? with
    | some q => [Cond.fieldLink own idx (q.2.1 r.2.2.2.2.1).1 (q.2.1 r.2.2.2.2.1).2.1 (q.2.1 r.2.2.2.2.1).2.2.1]
    | none => []
  | .putfield idx => match cl[r.2.2.2.1]? with
    | some q => [Cond.fieldLink own idx (q.2.1 r.2.2.2.2.1).1 (q.2.1 r.2.2.2.2.1).2.1 (q.2.1 r.2.2.2.2.1).2.2.1]
    | none => []
  | .new idx => match cl[r.2.2.2.1]? with
    | some q => [Cond.classLink own idx q.1, Cond.instantiable q.1 q.2.2, Cond.initialized q.1]
    | none => []
  | .newarray ty => [Cond.arrayClass (newarray.typeOf ty)]
  | .anewarray idx => [Cond.classLink own idx "TallySlate$Shelves"]
  | .multianewarray idx _ => [Cond.classLink own idx ("[" ++ (FieldType.array .int).toString), Cond.arrayClass .int]
  | .ldc idx => [Cond.constant own idx (Int32.ofInt r.2.2.2.2.2)]
  | .ldc_w idx => [Cond.constant own idx (Int32.ofInt r.2.2.2.2.2)]
  | .ldc2_w idx => [Cond.constantLong own idx (Int64.ofInt r.2.2.2.2.2)]
  | .invokevirtual idx => match P r.2.2.2.1 with
    | some M' => [Cond.instanceMethod M'.1.1, Cond.selects M'.1.1.cls M'.1.1 M'.1.1] ++ (if r.2.2.2.2.2 < 1000 then [Cond.methodLink own idx M'.1.1] else [])
    | none => []
  | .invokestatic idx => if r.2.2.2.2.2 = -1 then [Cond.methodLink own idx arraycopyName, Cond.native arraycopyName, Cond.static arraycopyName, Cond.initialized "java/lang/System"] else if r.2.2.2.2.2 = -2 then zz_mW own idx Lib.Math.min.name Lib.Math.min.code 2 .int else if r.2.2.2.2.2 = -3 then zz_mW own idx Lib.Math.max.name Lib.Math.max.code 2 .int else if r.2.2.2.2.2 = -4 then zz_mW own idx Lib.MathLoose.abs_long.x Lib.MathLoose.abs_long.code 2 .long else if r.2.2.2.2.2 = -5 then zz_mW own idx Lib.MathLoose.min_long.x Lib.MathLoose.min_long.code 4 .long else if r.2.2.2.2.2 = -6 then zz_mW own idx Lib.MathLoose.max_long.x Lib.MathLoose.max_long.code 4 .long else match P r.2.2.2.1 with
    | some M' => [Cond.static M'.1.1] ++ (if r.2.2.2.2.2 < 1000 then [Cond.methodLink own idx M'.1.1] else [])
    | none => []
  | .invokespecial idx => if r.2.2.2.2.2 = -1 then [Cond.methodLink own idx Lib.objectInit, Cond.instanceMethod Lib.objectInit, Cond.code Lib.objectInit ⟨#[0xb1]⟩ 1 none] else match P r.2.2.2.1 with
    | some M' => [Cond.instanceMethod M'.1.1] ++ (if r.2.2.2.2.2 < 1000 then [Cond.methodLink own idx M'.1.1] else [])
    | none => []
  | _ => []
/-- the words on nest mates, and on arrays of arrays and of objects -/
def zz_wn (P : Nat → Option zz_M) (own : String) (r : zz_N) : List Cond := match r.2.1 with
  | .anewarray _ => [Cond.arrayOver (.object "TallySlate$Shelves")]
  | .multianewarray _ _ => [Cond.arrayOver (.array .int)]
  | .invokevirtual idx => match P r.2.2.2.1 with
    | some M' => if r.2.2.2.2.2 < 1000 then [] else [Cond.methodLinkNest own idx M'.1.1 "TallySlate"]
    | none => []
  | .invokestatic idx => match P r.2.2.2.1 with
    | some M' => if r.2.2.2.2.2 < 1000 then [] else [Cond.methodLinkNest own idx M'.1.1 "TallySlate"]
    | none => []
  | .invokespecial idx => match P r.2.2.2.1 with
    | some M' => if r.2.2.2.2.2 < 1000 then [] else [Cond.methodLinkNest own idx M'.1.1 "TallySlate"]
    | none => []
  | _ => []
def zz_clsb (cl : List vw_C) (n : Int) (C : String) : Bool := match cl[n.toNat]? with
  | some q => decide (q.1 = C)
  | none => true
/-- what else a row wants -/
def zz_wb (hh : MethodName → List (Nat × Nat × Nat × Nat)) (P : Nat → Option zz_M) (cl : List vw_C) (tf : Nat → Nat → FieldType) (fd : Nat → List Value) (nf : Nat → Nat) (own nm : String) (r : zz_N) : Bool := match r.2.1 with
  | .getfield _ => match cl[r.2.2.2.1]? with
    | some q => decide (r.2.2.2.2.1 < q.2.2)
    | none => false
  | .putfield _ => match cl[r.2.2.2.1]? with
    | some q => decide (r.2.2.2.2.1 < q.2.2) && (decide ((q.2.1 r.2.2.2.2.1).2.2.2 = false) || decide ((q.2.1 r.2.2.2.2.1).2.2.2 = true ∧ nm = "<init>" ∧ (q.2.1 r.2.2.2.2.1).1 = own))
    | none => false
  | .new _ => match cl[r.2.2.2.1]? with
    | some q => (List.range q.2.2).all (fun j => decide (defaultValue (tf r.2.2.2.1 j) = vp_V (fd r.2.2.2.1) j)) && ((fd r.2.2.2.1).all Value.isDefault && decide (nf r.2.2.2.1 = q.2.2))
    | none => false
  | .multianewarray _ dm => decide (dm = 2)
  | .invokevirtual _ => match P r.2.2.2.1 with
    | some M' => decide ((parseMethodDescriptor M'.1.1.desc).map (fun d => d.parameters.length) = some r.2.2.2.2.1) && (if r.2.2.2.2.2 < 1000 then zz_clsb cl r.2.2.2.2.2 M'.1.1.cls else zz_clsb cl r.2.2.2.2.2 M'.1.1.cls && (zz_clsb cl (r.2.2.2.2.2 - 1000) M'.1.1.cls && (hh M'.1.1).isEmpty))
    | none => false
  | .invokestatic _ => if r.2.2.2.2.2 < 0 then decide (-6 ≤ r.2.2.2.2.2) else match P r.2.2.2.1 with
    | some M' => decide ((parseMethodDescriptor M'.1.1.desc).map (fun d => d.parameters.length) = some r.2.2.2.2.1) && (hh M'.1.1).isEmpty
    | none => false
  | .invokespecial _ => if r.2.2.2.2.2 = -1 then true else match P r.2.2.2.1 with
    | some M' => decide ((parseMethodDescriptor M'.1.1.desc).map (fun d => d.parameters.length) = some r.2.2.2.2.1) && (decide (M'.1.1.name = "<init>") && (decide (M'.1.2.2.2 = none) && (hh M'.1.1).isEmpty))
    | none => false
  | _ => true
theorem zz_w_okR {hh : MethodName → List (Nat × Nat × Nat × Nat)} {P : Nat → Option zz_M} {cl : List vw_C} {tf : Nat → Nat → FieldType} {fd : Nat → List Value} {nf : Nat → Nat} {Ts NW : List Cond} {own nm : String} {r : zz_N} (h : zz_wb hh P cl tf fd nf own nm r = true) (hw : ∀ w ∈ zz_wr hh P cl own r, w ∈ Ts) (hn : ∀ w ∈ zz_wn P own r, w ∈ NW) : zz_okR cl tf fd nf Ts NW own nm r := by
  obtain ⟨pc0, ins, ln, na, nb, nn⟩ := r
  cases ins
  case getfield idx =>
    simp only [zz_wb] at h
    split at h
    · rename_i q hq
      simp only [zz_wr, hq, List.mem_singleton, forall_eq] at hw
      exact ⟨q, hq, of_decide_eq_true h, hw⟩
    · cases h
  case putfield idx =>
    simp only [zz_wb] at h
    split at h
    · rename_i q hq
      simp only [zz_wr, hq, List.mem_singleton, forall_eq] at hw
      simp only [Bool.and_eq_true, Bool.or_eq_true, decide_eq_true_eq] at h
      exact ⟨q, hq, h.1, hw, h.2⟩
    · cases h
  case new idx =>
    simp only [zz_wb] at h
    split at h
    · rename_i q hq
      simp only [zz_wr, hq] at hw
      simp only [Bool.and_eq_true, decide_eq_true_eq] at h
      obtain ⟨h1, h2, h3⟩ := h
      exact ⟨q, hq, fun j hj => of_decide_eq_true (List.all_eq_true.mp h1 j (List.mem_range.mpr hj)), h2, h3, hw _ (by simp), hw _ (by simp), hw _ (by simp)⟩
    · cases h
  case newarray ty => exact hw _ (by simp [zz_wr])
  case anewarray idx => exact ⟨hw _ (by simp [zz_wr]), hn _ (by simp [zz_wn])⟩
  case multianewarray idx dm =>
    simp only [zz_wb, decide_eq_true_eq] at h
    exact ⟨h, hw _ (by simp [zz_wr]), hn _ (by simp [zz_wn]), hw _ (by simp [zz_wr])⟩
  case ldc idx => exact hw _ (by simp [zz_wr])
  case ldc_w idx => exact hw _ (by simp [zz_wr])
  case ldc2_w idx => exact hw _ (by simp [zz_wr])
  all_goals trivial
theorem zz_w_okC {hh : MethodName → List (Nat × Nat × Nat × Nat)} {P : Nat → Option zz_M} {cl : List vw_C} {tf : Nat → Nat → FieldType} {fd : Nat → List Value} {nf : Nat → Nat} {Ts NW : List Cond} {own nm : String} {r : zz_N} (h : zz_wb hh P cl tf fd nf own nm r = true) (hw : ∀ w ∈ zz_wr hh P cl own r, w ∈ Ts) (hn : ∀ w ∈ zz_wn P own r, w ∈ NW) : zz_okC hh P cl Ts NW own r := by
  obtain ⟨pc0, ins, ln, na, nb, nn⟩ := r
  cases ins
  case invokevirtual idx =>
    simp only [zz_wb] at h
    split at h
    · rename_i M' hP
      rw [Bool.and_eq_true] at h
      obtain ⟨h1, h2⟩ := h
      simp only [zz_wr, hP] at hw
      simp only [zz_wn, hP] at hn
      have key : ∀ (ci : Nat) (q : vw_C) (n : Int), (ci : Int) = n → zz_clsb cl n M'.1.1.cls = true → cl[ci]? = some q → q.1 = M'.1.1.cls := fun ci q n hn hb hq => by
        subst hn
        unfold zz_clsb at hb
        rw [Int.toNat_natCast, hq] at hb
        exact of_decide_eq_true hb
      refine ⟨M', hP, of_decide_eq_true h1, hw _ (by simp), hw _ (by simp), ?_, ?_⟩
      · intro ci q hci hq
        split at h2
        · rename_i hlt
          simp only at hci
          rcases hci with hci | hci
          · exact key ci q _ hci h2 hq
          · omega
        · rw [Bool.and_eq_true, Bool.and_eq_true] at h2
          simp only at hci
          rcases hci with hci | hci
          · exact key ci q _ hci h2.1 hq
          · exact key ci q _ (by omega) h2.2.1 hq
      · split at h2
        · rename_i hlt
          exact Or.inl (hw _ (by simp [hlt]))
        · rename_i hge
          rw [Bool.and_eq_true, Bool.and_eq_true] at h2
          exact Or.inr ⟨List.isEmpty_iff.mp h2.2.2, "TallySlate", hn _ (by simp [hge])⟩
    · cases h
  case invokestatic idx =>
    simp only [zz_wb] at h
    simp only [zz_okC]
    by_cases h1 : nn = -1
    · rw [if_pos h1]
      simp only [zz_wr, h1, if_true] at hw
      exact ⟨hw _ (by simp), hw _ (by simp), hw _ (by simp), hw _ (by simp)⟩
    rw [if_neg h1]
    by_cases h2 : nn = -2
    · rw [if_pos h2]
      simp only [zz_wr, if_neg h1, if_pos h2] at hw
      exact zz_mW_ok hw
    rw [if_neg h2]
    by_cases h3 : nn = -3
    · rw [if_pos h3]
      simp only [zz_wr, if_neg h1, if_neg h2, if_pos h3] at hw
      exact zz_mW_ok hw
    rw [if_neg h3]
    by_cases h4 : nn = -4
    · rw [if_pos h4]
      simp only [zz_wr, if_neg h1, if_neg h2, if_neg h3, if_pos h4] at hw
      exact zz_mW_ok hw
    rw [if_neg h4]
    by_cases h5 : nn = -5
    · rw [if_pos h5]
      simp only [zz_wr, if_neg h1, if_neg h2, if_neg h3, if_neg h4, if_pos h5] at hw
      exact zz_mW_ok hw
    rw [if_neg h5]
    by_cases h6 : nn = -6
    · rw [if_pos h6]
      simp only [zz_wr, if_neg h1, if_neg h2, if_neg h3, if_neg h4, if_neg h5, if_pos h6] at hw
      exact zz_mW_ok hw
    rw [if_neg h6]
    split at h
    · rename_i hlt
      have := of_decide_eq_true h
      omega
    · split at h
      · rename_i M' hP
        rw [Bool.and_eq_true] at h
        obtain ⟨k1, k2⟩ := h
        simp only [zz_wr, if_neg h1, if_neg h2, if_neg h3, if_neg h4, if_neg h5, if_neg h6, hP] at hw
        simp only [zz_wn, hP] at hn
        refine ⟨M', hP, of_decide_eq_true k1, List.isEmpty_iff.mp k2, hw _ (by simp), ?_⟩
        by_cases hlt : nn < 1000
        · exact Or.inl (hw _ (by simp [hlt]))
        · exact Or.inr ⟨List.isEmpty_iff.mp k2, "TallySlate", hn _ (by simp [hlt])⟩
      · cases h
  case invokespecial idx =>
    simp only [zz_wb] at h
    simp only [zz_okC]
    split at h
    · rename_i hnn
      rw [if_pos hnn]
      simp only [zz_wr, hnn, if_true] at hw
      exact ⟨hw _ (by simp), hw _ (by simp), hw _ (by simp)⟩
    · rename_i hnn
      rw [if_neg hnn]
      split at h
      · rename_i M' hP
        rw [Bool.and_eq_true, Bool.and_eq_true, Bool.and_eq_true] at h
        obtain ⟨h1, h2, h3, h4⟩ := h
        simp only [zz_wr, hP, if_neg hnn] at hw
        simp only [zz_wn, hP] at hn
        refine ⟨M', hP, of_decide_eq_true h1, of_decide_eq_true h2, of_decide_eq_true h3, List.isEmpty_iff.mp h4, hw _ (by simp), ?_⟩
        by_cases hlt : nn < 1000
        · exact Or.inl (hw _ (by simp [hlt]))
        · exact Or.inr ⟨List.isEmpty_iff.mp h4, "TallySlate", hn _ (by simp [hlt])⟩
      · cases h
  all_goals trivial
/-- words by their places -/
theorem zz_places {big ws : List Cond} {ps : List Nat} (f : Cond → Bool) (h : ws.map some = ps.map (fun i => big[i]?)) (hg : ws.all f = true) : ∀ w ∈ ws, w ∈ big.filter f := fun w hw => by
  have h1 : some w ∈ ps.map (fun i => big[i]?) := by rw [← h]; exact List.mem_map.mpr ⟨w, hw, rfl⟩
  obtain ⟨i, -, hi⟩ := List.mem_map.mp h1
  exact List.mem_filter.mpr ⟨List.mem_of_getElem? hi, List.all_eq_true.mp hg w hw⟩
/-- a stretch of rows -/
theorem zz_w_okL {hh : MethodName → List (Nat × Nat × Nat × Nat)} {P : Nat → Option zz_M} {cl : List vw_C} {tf : Nat → Nat → FieldType} {fd : Nat → List Value} {nf : Nat → Nat} {Ts NW : List Cond} {cc : ByteArray} {own nm : String} {l : List zz_N} (hd : ∀ r ∈ l, decode cc r.1 = .ok (r.2.1, r.2.2.1)) (hb : l.all (fun r => zz_wb hh P cl tf fd nf own nm r) = true) (hw : ∀ w ∈ l.flatMap (zz_wr hh P cl own), w ∈ Ts) (hn : ∀ w ∈ l.flatMap (zz_wn P own), w ∈ NW) : ∀ r ∈ l, decode cc r.1 = .ok (r.2.1, r.2.2.1) ∧ zz_okR cl tf fd nf Ts NW own nm r ∧ zz_okC hh P cl Ts NW own r := by
  intro r hr
  have c1 := List.all_eq_true.mp hb r hr
  have c2 : ∀ w ∈ zz_wr hh P cl own r, w ∈ Ts := fun w h => hw w (List.mem_flatMap.mpr ⟨r, hr, h⟩)
  have c3 : ∀ w ∈ zz_wn P own r, w ∈ NW := fun w h => hn w (List.mem_flatMap.mpr ⟨r, hr, h⟩)
  exact ⟨hd r hr, zz_w_okR c1 c2 c3, zz_w_okC c1 c2 c3⟩
theorem zz_w_okM {hh : MethodName → List (Nat × Nat × Nat × Nat)} {P : Nat → Option zz_M} {cl : List vw_C} {tf : Nat → Nat → FieldType} {fd : Nat → List Value} {nf : Nat → Nat} {Ts NW : List Cond} {M : zz_M} (hr : zz_okW hh P cl tf fd nf Ts NW M) (hb : (plainName M.1.1.cls && (decide (M.1.1.cls ≠ "java/lang/invoke/MethodHandle" ∧ M.1.1.cls ≠ "java/lang/invoke/VarHandle") && decide (M.1.2.2.1 ≤ 40))) = true) (hw : ∀ w ∈ [zz_cw hh M, Cond.initialized M.1.1.cls], w ∈ Ts) : zz_okM hh P cl tf fd nf Ts NW M := by
  rw [Bool.and_eq_true, Bool.and_eq_true] at hb
  obtain ⟨b2, b3, b4⟩ := hb
  exact ⟨hr, hw _ (by simp), hw _ (by simp), b2, of_decide_eq_true b3, of_decide_eq_true b4⟩
