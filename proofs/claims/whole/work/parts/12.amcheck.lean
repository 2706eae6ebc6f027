/-! ===== the tables' words of a method's rows: which they are; by program ===== -/
def zz_mW (own : String) (idx : Nat) (y : MethodName) (cd : ByteArray) (n : Nat) (ret : FieldType) : List Cond := [Cond.methodLink own idx y, Cond.static y, Cond.initialized "java/lang/Math", Cond.code y cd n (some ret)]
theorem zz_mW_ok {Ts : List Cond} {own : String} {idx : Nat} {y : MethodName} {cd : ByteArray} {n : Nat} {ret : FieldType} (h : ∀ w ∈ zz_mW own idx y cd n ret, w ∈ Ts) : zz_mB Ts own idx y cd n ret := ⟨h _ (by simp [zz_mW]), h _ (by simp [zz_mW]), h _ (by simp [zz_mW]), h _ (by simp [zz_mW])⟩
/-- a method that the enum inherits -/
def zz_up (M : zz_M) : Bool := decide (M.1.1.cls = "java/lang/Enum")
/-- a call by way of the nest -/
def zz_nst (n : Int) : Bool := decide (1000 ≤ n ∧ n < 2000 ∧ n ≠ 1005)
/-- the words that a row wants of the tables -/
def zz_wr (hh : MethodName → List (Nat × Nat × Nat × Nat)) (P : Nat → Option zz_M) (cl : List vw_C) (own : String) (r : zz_N) : List Cond := match r.2.1 with
  | .getfield idx => if r.2.2.2.1 < 20 then (match cl[r.2.2.2.1]? with
    | some q => [Cond.fieldLink own idx (q.2.1 r.2.2.2.2.1).1 (q.2.1 r.2.2.2.2.1).2.1 (q.2.1 r.2.2.2.2.1).2.2.1]
    | none => []) else if r.2.2.2.2.2 = 1 then [] else [Cond.fieldLink own idx (zx_fd r.2.2.2.1 r.2.2.2.2.1).1 (zx_fd r.2.2.2.1 r.2.2.2.2.1).2.1 (zx_fd r.2.2.2.1 r.2.2.2.2.1).2.2]
  | .getstatic idx => match zx_S[r.2.2.2.1]? with
    | some q => [Cond.fieldLink own idx q.1 q.2.1 q.2.2.1]
    | none => []
  | .putfield idx => match cl[r.2.2.2.1]? with
    | some q => [Cond.fieldLink own idx (q.2.1 r.2.2.2.2.1).1 (q.2.1 r.2.2.2.2.1).2.1 (q.2.1 r.2.2.2.2.1).2.2.1]
    | none => []
  | .new idx => if r.2.2.2.2.2 = -9 then [Cond.classLink own idx zz_ise, Cond.initialized zz_ise] ++ (vx_atS own r.2.2.2.2.1 zz_ise ["java/lang/RuntimeException", "java/lang/Exception"]).filter goodWord else match cl[r.2.2.2.1]? with
    | some q => [Cond.classLink own idx q.1, Cond.instantiable q.1 q.2.2, Cond.initialized q.1]
    | none => []
  | .newarray ty => [Cond.arrayClass (newarray.typeOf ty)]
  | .anewarray idx => [Cond.classLink own idx "TallySlate$Shelves"]
  | .multianewarray idx _ => [Cond.classLink own idx ("[" ++ (FieldType.array .int).toString), Cond.arrayClass .int]
  | .ldc idx => if r.2.2.2.2.1 = 0 then [Cond.constant own idx (Int32.ofInt r.2.2.2.2.2)] else []
  | .ldc_w idx => [Cond.constant own idx (Int32.ofInt r.2.2.2.2.2)]
  | .ldc2_w idx => [Cond.constantLong own idx (Int64.ofInt r.2.2.2.2.2)]
  | .invokevirtual idx => match P r.2.2.2.1 with
    | some M' => if zz_up M' = true then [Cond.instanceMethod M'.1.1] ++ va_wsU own idx "TallySlate$Word" M'.1.1.cls ⟨"TallySlate$Word", M'.1.1.name, M'.1.1.desc⟩ M'.1.1 [] else [Cond.instanceMethod M'.1.1, Cond.selects M'.1.1.cls M'.1.1 M'.1.1] ++ (if zz_nst r.2.2.2.2.2 = false then [Cond.methodLink own idx M'.1.1] else []) ++ (if r.2.2.2.2.2 = 2005 then [Cond.classLink own 71 zz_ise] else [])
    | none => []
  | .invokestatic idx => if r.2.2.2.2.2 = -1 then [Cond.methodLink own idx arraycopyName, Cond.native arraycopyName, Cond.static arraycopyName, Cond.initialized "java/lang/System"] else if r.2.2.2.2.2 = -2 then zz_mW own idx Lib.Math.min.name Lib.Math.min.code 2 .int else if r.2.2.2.2.2 = -3 then zz_mW own idx Lib.Math.max.name Lib.Math.max.code 2 .int else if r.2.2.2.2.2 = -4 then zz_mW own idx Lib.MathLoose.abs_long.x Lib.MathLoose.abs_long.code 2 .long else if r.2.2.2.2.2 = -5 then zz_mW own idx Lib.MathLoose.min_long.x Lib.MathLoose.min_long.code 4 .long else if r.2.2.2.2.2 = -6 then zz_mW own idx Lib.MathLoose.max_long.x Lib.MathLoose.max_long.code 4 .long else match P r.2.2.2.1 with
    | some M' => [Cond.static M'.1.1] ++ (if r.2.2.2.2.2 < 1000 then [Cond.methodLink own idx M'.1.1] else [])
    | none => []
  | .invokespecial idx => if r.2.2.2.2.2 = -1 then [Cond.methodLink own idx Lib.objectInit, Cond.instanceMethod Lib.objectInit, Cond.code Lib.objectInit ⟨#[0xb1]⟩ 1 none] else match P r.2.2.2.1 with
    | some M' => [Cond.instanceMethod M'.1.1] ++ (if r.2.2.2.2.2 < 1000 then [Cond.methodLink own idx M'.1.1] else [])
    | none => []
  | _ => []
/-- the words on nest mates, and on arrays of arrays and of objects -/
def zz_wn (P : Nat → Option zz_M) (own : String) (r : zz_N) : List Cond := match r.2.1 with
  | .anewarray _ => [Cond.arrayOver (.object "TallySlate$Shelves")]
  | .new _ => if r.2.2.2.2.2 = -9 then (vx_atS own r.2.2.2.2.1 zz_ise ["java/lang/RuntimeException", "java/lang/Exception"]).filter (fun w => !goodWord w) else []
  | .multianewarray _ _ => [Cond.arrayOver (.array .int)]
  | .aastore => if r.2.2.2.2.2 = 1 then [Cond.arrayOver (.array .int)] else []
  | .getfield idx => if r.2.2.2.1 < 20 then [] else if r.2.2.2.2.2 = 1 then [Cond.fieldLinkNest own idx (zx_fd r.2.2.2.1 r.2.2.2.2.1).1 (zx_fd r.2.2.2.1 r.2.2.2.2.1).2.1 (zx_fd r.2.2.2.1 r.2.2.2.2.1).2.2 "TallySlate"] else []
  | .invokevirtual idx => match P r.2.2.2.1 with
    | some M' => if zz_up M' = true then [] else (if zz_nst r.2.2.2.2.2 = false then [] else [Cond.methodLinkNest own idx M'.1.1 "TallySlate"]) ++ (if r.2.2.2.2.2 = 2005 then [Cond.castable zz_ise zz_ise] else [])
    | none => []
  | .invokestatic idx => match P r.2.2.2.1 with
    | some M' => if r.2.2.2.2.2 < 1000 then [] else [Cond.methodLinkNest own idx M'.1.1 "TallySlate"]
    | none => []
  | .invokespecial idx => match P r.2.2.2.1 with
    | some M' => if r.2.2.2.2.2 < 1000 then [] else [Cond.methodLinkNest own idx M'.1.1 "TallySlate"]
    | none => []
  | _ => []
def zz_clsb (cl : List vw_C) (n : Int) (C : String) : Bool := match cl[n.toNat]? with
  | some q => decide (q.1 = C)
  | none => true
def zz_clsx (n : Int) (C : String) : Bool := decide (n < 20) || decide (zx_cn n.toNat = C)
/-- what else a row wants -/
def zz_wb (hh : MethodName → List (Nat × Nat × Nat × Nat)) (P : Nat → Option zz_M) (cl : List vw_C) (tf : Nat → Nat → FieldType) (fd : Nat → List Value) (nf : Nat → Nat) (own nm : String) (r : zz_N) : Bool := match r.2.1 with
  | .getfield _ => if r.2.2.2.1 < 20 then (match cl[r.2.2.2.1]? with
    | some q => decide (r.2.2.2.2.1 < q.2.2)
    | none => false) else true
  | .getstatic _ => (zx_S[r.2.2.2.1]?).isSome
  | .ldc idx => if r.2.2.2.2.1 = 0 then true else match zx_K[r.2.2.2.1]? with
    | some q => decide (q.1 = own ∧ q.2.1 = idx)
    | none => false
  | .putfield _ => match cl[r.2.2.2.1]? with
    | some q => decide (r.2.2.2.2.1 < q.2.2) && (decide ((q.2.1 r.2.2.2.2.1).2.2.2 = false) || decide ((q.2.1 r.2.2.2.2.1).2.2.2 = true ∧ nm = "<init>" ∧ (q.2.1 r.2.2.2.2.1).1 = own))
    | none => false
  | .new _ => if r.2.2.2.2.2 = -9 then true else match cl[r.2.2.2.1]? with
    | some q => (List.range q.2.2).all (fun j => decide (defaultValue (tf r.2.2.2.1 j) = vp_V (fd r.2.2.2.1) j)) && ((fd r.2.2.2.1).all Value.isDefault && decide (nf r.2.2.2.1 = q.2.2))
    | none => false
  | .multianewarray _ dm => decide (dm = 2)
  | .invokevirtual _ => match P r.2.2.2.1 with
    | some M' => decide ((parseMethodDescriptor M'.1.1.desc).map (fun d => d.parameters.length) = some r.2.2.2.2.1) && (if zz_up M' = true then (hh M'.1.1).isEmpty && decide (r.2.2.2.2.2 = 20) else (zz_clsb cl r.2.2.2.2.2 M'.1.1.cls && (decide (r.2.2.2.2.2 < 1000) || zz_clsb cl (r.2.2.2.2.2 - 1000) M'.1.1.cls) && (decide (r.2.2.2.2.2 < 2000) || zz_clsb cl (r.2.2.2.2.2 - 2000) M'.1.1.cls)) && ((zz_clsx r.2.2.2.2.2 M'.1.1.cls && (decide (r.2.2.2.2.2 < 1000) || zz_clsx (r.2.2.2.2.2 - 1000) M'.1.1.cls) && (decide (r.2.2.2.2.2 < 2000) || zz_clsx (r.2.2.2.2.2 - 2000) M'.1.1.cls)) && (!zz_nst r.2.2.2.2.2 || (hh M'.1.1).isEmpty)))
    | none => false
  | .invokestatic _ => if r.2.2.2.2.2 < 0 then decide (-6 ≤ r.2.2.2.2.2) else match P r.2.2.2.1 with
    | some M' => decide ((parseMethodDescriptor M'.1.1.desc).map (fun d => d.parameters.length) = some r.2.2.2.2.1) && (hh M'.1.1).isEmpty
    | none => false
  | .invokespecial _ => if r.2.2.2.2.2 = -1 then true else match P r.2.2.2.1 with
    | some M' => decide ((parseMethodDescriptor M'.1.1.desc).map (fun d => d.parameters.length) = some r.2.2.2.2.1) && (decide (M'.1.1.name = "<init>") && (decide (M'.1.2.2.2 = none) && (hh M'.1.1).isEmpty))
    | none => false
  | _ => true
theorem zz_w_okR {hh : MethodName → List (Nat × Nat × Nat × Nat)} {P : Nat → Option zz_M} {cl : List vw_C} {tf : Nat → Nat → FieldType} {fd : Nat → List Value} {nf : Nat → Nat} {Ts NW : List Cond} {own nm : String} {r : zz_N} (h : zz_wb hh P cl tf fd nf own nm r = true) (hw : ∀ w ∈ zz_wr hh P cl own r, w ∈ Ts) (hn : ∀ w ∈ zz_wn P own r, w ∈ NW) : zz_okR cl tf fd nf Ts NW own nm r := by
  obtain ⟨pc0, ins, ln, na, nb, nn⟩ := r
  cases ins
  case getfield idx =>
    simp only [zz_wb] at h
    simp only [zz_okR]
    by_cases hna : na < 20
    · rw [if_pos hna] at h ⊢
      split at h
      · rename_i q hq
        simp only [zz_wr, if_pos hna, hq, List.mem_singleton, forall_eq] at hw
        exact ⟨q, hq, of_decide_eq_true h, hw⟩
      · cases h
    · rw [if_neg hna]
      simp only [zz_wr, if_neg hna] at hw
      simp only [zz_wn, if_neg hna] at hn
      by_cases h1 : nn = 1
      · rw [if_pos h1] at hn
        exact Or.inr ⟨"TallySlate", hn _ (by simp)⟩
      · rw [if_neg h1] at hw
        exact Or.inl (hw _ (by simp))
  case getstatic idx =>
    simp only [zz_wb] at h
    obtain ⟨q, hq⟩ := Option.isSome_iff_exists.mp h
    simp only [zz_wr, hq] at hw
    exact ⟨q, hq, hw _ (by simp)⟩
  case putfield idx =>
    simp only [zz_wb] at h
    split at h
    · rename_i q hq
      simp only [zz_wr, hq, List.mem_singleton, forall_eq] at hw
      simp only [Bool.and_eq_true, Bool.or_eq_true, decide_eq_true_eq] at h
      exact ⟨q, hq, h.1, hw, h.2⟩
    · cases h
  case new idx =>
    simp only [zz_wb] at h
    simp only [zz_okR]
    by_cases hn9 : nn = -9
    · rw [if_pos hn9]
      trivial
    rw [if_neg hn9] at h ⊢
    split at h
    · rename_i q hq
      simp only [zz_wr, if_neg hn9, hq] at hw
      simp only [Bool.and_eq_true, decide_eq_true_eq] at h
      obtain ⟨h1, h2, h3⟩ := h
      exact ⟨q, hq, fun j hj => of_decide_eq_true (List.all_eq_true.mp h1 j (List.mem_range.mpr hj)), h2, h3, hw _ (by simp), hw _ (by simp), hw _ (by simp)⟩
    · cases h
  case newarray ty => exact hw _ (by simp [zz_wr])
  case aastore => exact fun h1 => hn _ (by simp only [zz_wn]; simp at h1; simp [h1])
  case anewarray idx => exact ⟨hw _ (by simp [zz_wr]), hn _ (by simp [zz_wn])⟩
  case multianewarray idx dm =>
    simp only [zz_wb, decide_eq_true_eq] at h
    exact ⟨h, hw _ (by simp [zz_wr]), hn _ (by simp [zz_wn]), hw _ (by simp [zz_wr])⟩
  case ldc idx =>
    simp only [zz_wb] at h
    simp only [zz_okR]
    by_cases hnb : nb = 0
    · rw [if_pos hnb]
      exact hw _ (by simp [zz_wr, hnb])
    · rw [if_neg hnb] at h ⊢
      split at h
      · rename_i q hq
        have := of_decide_eq_true h
        exact ⟨q, hq, this.1, this.2⟩
      · cases h
  case ldc_w idx => exact hw _ (by simp [zz_wr])
  case ldc2_w idx => exact hw _ (by simp [zz_wr])
  all_goals trivial
theorem zz_w_okC {hh : MethodName → List (Nat × Nat × Nat × Nat)} {P : Nat → Option zz_M} {cl : List vw_C} {tf : Nat → Nat → FieldType} {fd : Nat → List Value} {nf : Nat → Nat} {Ts NW : List Cond} {own nm : String} {r : zz_N} (h : zz_wb hh P cl tf fd nf own nm r = true) (hw : ∀ w ∈ zz_wr hh P cl own r, w ∈ Ts) (hn : ∀ w ∈ zz_wn P own r, w ∈ NW) : zz_okC hh P cl Ts NW own r := by
  obtain ⟨pc0, ins, ln, na, nb, nn⟩ := r
  cases ins
  case invokevirtual idx =>
    simp only [zz_wb] at h
    split at h
    · rename_i M' hP
      rw [Bool.and_eq_true] at h
      obtain ⟨h1, h2⟩ := h
      simp only [zz_wr, hP] at hw
      simp only [zz_wn, hP] at hn
      have key : ∀ (ci : Nat) (q : vw_C) (n : Int), (ci : Int) = n → zz_clsb cl n M'.1.1.cls = true → cl[ci]? = some q → q.1 = M'.1.1.cls := fun ci q n hn hb hq => by
        subst hn
        unfold zz_clsb at hb
        rw [Int.toNat_natCast, hq] at hb
        exact of_decide_eq_true hb
      by_cases hup : zz_up M' = true
      · rw [if_pos hup] at h2 hw
        rw [Bool.and_eq_true] at h2
        exact ⟨M', hP, of_decide_eq_true h1, hw _ (by simp), Or.inr ⟨List.isEmpty_iff.mp h2.1, of_decide_eq_true h2.2, fun w hw9 => hw w (List.mem_append_right _ hw9)⟩⟩
      · rw [if_neg hup] at h2 hw hn
        simp only [Bool.and_eq_true, Bool.or_eq_true, decide_eq_true_eq, Bool.not_eq_true'] at h2
        obtain ⟨⟨⟨c1, c2⟩, c3⟩, ⟨⟨⟨x1, x2⟩, x3⟩, x4⟩⟩ := h2
        have keyx : ∀ (ci : Nat) (n : Int), (ci : Int) = n → 20 ≤ ci → zz_clsx n M'.1.1.cls = true → zx_cn ci = M'.1.1.cls := fun ci n hn h20 hb => by
          subst hn
          unfold zz_clsx at hb
          rw [Bool.or_eq_true, decide_eq_true_eq, decide_eq_true_eq, Int.toNat_natCast] at hb
          rcases hb with hb | hb
          · omega
          · exact hb
        refine ⟨M', hP, of_decide_eq_true h1, hw _ (by simp), Or.inl ⟨hw _ (by simp), ?_, ?_, ?_⟩⟩
        · intro ci q hci hq
          simp only at hci
          rcases hci with hci | hci | hci
          · exact key ci q _ hci c1 hq
          · rcases c2 with c2 | c2
            · omega
            · exact key ci q _ (by omega) c2 hq
          · rcases c3 with c3 | c3
            · omega
            · exact key ci q _ (by omega) c3 hq
        · intro ci h20 hci
          simp only at hci
          rcases hci with hci | hci | hci
          · exact keyx ci _ hci h20 x1
          · rcases x2 with x2 | x2
            · omega
            · exact keyx ci _ (by omega) h20 x2
          · rcases x3 with x3 | x3
            · omega
            · exact keyx ci _ (by omega) h20 x3
        · rcases x4 with x4 | x4
          · exact Or.inl (hw _ (by simp [x4]))
          · by_cases hns : zz_nst nn = false
            · exact Or.inl (hw _ (by simp [hns]))
            · exact Or.inr ⟨List.isEmpty_iff.mp x4, "TallySlate", hn _ (by simp [hns])⟩
    · cases h
  case invokestatic idx =>
    simp only [zz_wb] at h
    simp only [zz_okC]
    by_cases h1 : nn = -1
    · rw [if_pos h1]
      simp only [zz_wr, h1, if_true] at hw
      exact ⟨hw _ (by simp), hw _ (by simp), hw _ (by simp), hw _ (by simp)⟩
    rw [if_neg h1]
    by_cases h2 : nn = -2
    · rw [if_pos h2]
      simp only [zz_wr, if_neg h1, if_pos h2] at hw
      exact zz_mW_ok hw
    rw [if_neg h2]
    by_cases h3 : nn = -3
    · rw [if_pos h3]
      simp only [zz_wr, if_neg h1, if_neg h2, if_pos h3] at hw
      exact zz_mW_ok hw
    rw [if_neg h3]
    by_cases h4 : nn = -4
    · rw [if_pos h4]
      simp only [zz_wr, if_neg h1, if_neg h2, if_neg h3, if_pos h4] at hw
      exact zz_mW_ok hw
    rw [if_neg h4]
    by_cases h5 : nn = -5
    · rw [if_pos h5]
      simp only [zz_wr, if_neg h1, if_neg h2, if_neg h3, if_neg h4, if_pos h5] at hw
      exact zz_mW_ok hw
    rw [if_neg h5]
    by_cases h6 : nn = -6
    · rw [if_pos h6]
      simp only [zz_wr, if_neg h1, if_neg h2, if_neg h3, if_neg h4, if_neg h5, if_pos h6] at hw
      exact zz_mW_ok hw
    rw [if_neg h6]
    split at h
    · rename_i hlt
      have := of_decide_eq_true h
      omega
    · split at h
      · rename_i M' hP
        rw [Bool.and_eq_true] at h
        obtain ⟨k1, k2⟩ := h
        simp only [zz_wr, if_neg h1, if_neg h2, if_neg h3, if_neg h4, if_neg h5, if_neg h6, hP] at hw
        simp only [zz_wn, hP] at hn
        refine ⟨M', hP, of_decide_eq_true k1, List.isEmpty_iff.mp k2, hw _ (by simp), ?_⟩
        by_cases hlt : nn < 1000
        · exact Or.inl (hw _ (by simp [hlt]))
        · exact Or.inr ⟨List.isEmpty_iff.mp k2, "TallySlate", hn _ (by simp [hlt])⟩
      · cases h
  case invokespecial idx =>
    simp only [zz_wb] at h
    simp only [zz_okC]
    split at h
    · rename_i hnn
      rw [if_pos hnn]
      simp only [zz_wr, hnn, if_true] at hw
      exact ⟨hw _ (by simp), hw _ (by simp), hw _ (by simp)⟩
    · rename_i hnn
      rw [if_neg hnn]
      split at h
      · rename_i M' hP
        rw [Bool.and_eq_true, Bool.and_eq_true, Bool.and_eq_true] at h
        obtain ⟨h1, h2, h3, h4⟩ := h
        simp only [zz_wr, hP, if_neg hnn] at hw
        simp only [zz_wn, hP] at hn
        refine ⟨M', hP, of_decide_eq_true h1, of_decide_eq_true h2, of_decide_eq_true h3, List.isEmpty_iff.mp h4, hw _ (by simp), ?_⟩
        by_cases hlt : nn < 1000
        · exact Or.inl (hw _ (by simp [hlt]))
        · exact Or.inr ⟨List.isEmpty_iff.mp h4, "TallySlate", hn _ (by simp [hlt])⟩
      · cases h
  all_goals trivial
/-- throws and calls within a try: the code around, by program -/
def zz_tb (hh : MethodName → List (Nat × Nat × Nat × Nat)) (P : Nat → Option zz_M) (M : zz_M) (r : zz_N) : Bool := match zz_cls r with
  | 3 => decide (r.2.2.1 = 3) && (decide (decode M.1.2.1 (r.1 + 3) = .ok (.dup, 1)) && (decide (decode M.1.2.1 (r.1 + 4) = .ok (.ldc_w 276, 3)) && (decide (decode M.1.2.1 (r.1 + 7) = .ok (.invokespecial r.2.2.2.2.1, 3)) && (decide (decode M.1.2.1 (r.1 + 10) = .ok (.athrow, 1)) && (decide (M.1.1.cls = "TallySlate$Parser") && ((hh M.1.1).isEmpty && (vx_atS M.1.1.cls r.2.2.2.2.1 zz_ise ["java/lang/RuntimeException", "java/lang/Exception"]).all (fun w => goodWord w || w.onTables)))))))
  | 2 => if r.2.2.2.2.2 = 5 ∨ r.2.2.2.2.2 = 2005 then (match r.2.1, P r.2.2.2.1 with
    | .invokevirtual _, some M' => (hh M'.1.1).isEmpty && (decide (M'.1.1.cls = "TallySlate$Parser") && (if r.2.2.2.2.2 = 5 then (tableOf (hh M.1.1)).all (fun x => !covers x r.1) else (match tableOf (hh M.1.1) with
      | [x] => covers x r.1 && (decide (x.catchType = 71) && (decide (M.1.2.2.2 = none) && (decide (4 < M.1.2.2.1) && (decide (decode M.1.2.1 x.handlerPc = .ok (.astore 4, 2)) && decide (decode M.1.2.1 (x.handlerPc + 2) = .ok (.return_, 1))))))
      | _ => false)))
    | _, _ => false) else true
  | _ => true
theorem zz_w_okT {hh : MethodName → List (Nat × Nat × Nat × Nat)} {P : Nat → Option zz_M} {cl : List vw_C} {tf : Nat → Nat → FieldType} {fd : Nat → List Value} {nf : Nat → Nat} {Ts NW : List Cond} {nm : String} {M : zz_M} {r : zz_N} (ht : zz_tb hh P M r = true) (h : zz_wb hh P cl tf fd nf M.1.1.cls nm r = true) (hw : ∀ w ∈ zz_wr hh P cl M.1.1.cls r, w ∈ Ts) (hn : ∀ w ∈ zz_wn P M.1.1.cls r, w ∈ NW) : zz_okT hh P Ts NW M r := by
  obtain ⟨pc0, ins, ln, na, nb, nn⟩ := r
  refine ⟨fun hc => ?_, fun hc h5 => ?_, fun hc h5 => ?_, fun hc h5 => ?_⟩
  · unfold zz_tb at ht
    rw [hc] at ht
    simp only [Bool.and_eq_true, decide_eq_true_eq] at ht
    obtain ⟨t1, t2, t3, t4, t5, t6, t7, t8⟩ := ht
    have hin : ∃ ik, ins = .new ik ∧ nn = -9 := by
      unfold zz_cls at hc
      cases ins <;> simp at hc
      rename_i ik
      exact ⟨ik, rfl, hc⟩
    obtain ⟨ik, e1, e2⟩ := hin
    subst e1; subst e2
    simp only [zz_wr, if_true] at hw
    simp only [zz_wn, if_true] at hn
    refine ⟨ik, nb, rfl, t1, t2, t3, t4, t5, t6, List.isEmpty_iff.mp t7, hw _ (by simp), hw _ (by simp), fun w hw9 => ?_⟩
    by_cases hgw : goodWord w = true
    · exact Or.inl (hw w (List.mem_append_right _ (List.mem_filter.mpr ⟨hw9, hgw⟩)))
    · have hgf : goodWord w = false := by
        cases hq : goodWord w with
        | true => exact absurd hq hgw
        | false => rfl
      have := List.all_eq_true.mp t8 w hw9
      rw [hgf, Bool.false_or] at this
      exact Or.inr ⟨hn w (List.mem_filter.mpr ⟨hw9, by rw [hgf]; rfl⟩), this⟩
  · unfold zz_tb at ht
    simp only [hc] at ht
    simp only at h5
    rw [if_pos h5] at ht
    split at ht
    · rename_i idx M' e2
      simp only [Bool.and_eq_true, decide_eq_true_eq] at ht
      obtain ⟨t1, t2, -⟩ := ht
      simp only [zz_wb, e2, Bool.and_eq_true, decide_eq_true_eq] at h
      have hup : ¬ zz_up M' = true := by
        unfold zz_up
        rw [decide_eq_true_eq, t2]
        decide
      simp only [zz_wr, e2, if_neg hup] at hw
      have hns : zz_nst nn = false := by
        unfold zz_nst
        rw [decide_eq_false_iff_not]
        omega
      exact ⟨idx, M', rfl, e2, List.isEmpty_iff.mp t1, t2, hw _ (by simp [hns]), hw _ (by simp), hw _ (by simp), h.1⟩
    · cases ht
  · unfold zz_tb at ht
    simp only [hc] at ht
    simp only at h5
    rw [if_pos (Or.inl h5)] at ht
    split at ht
    · simp only [Bool.and_eq_true, decide_eq_true_eq] at ht
      obtain ⟨-, -, t3⟩ := ht
      rw [if_pos h5] at t3
      intro x hx
      have := List.all_eq_true.mp t3 x hx
      exact (Bool.not_eq_true' _).mp this
    · cases ht
  · unfold zz_tb at ht
    simp only [hc] at ht
    simp only at h5
    rw [if_pos (Or.inr h5)] at ht
    split at ht
    · rename_i idx M' e2
      simp only [Bool.and_eq_true, decide_eq_true_eq] at ht
      obtain ⟨-, t2, t3⟩ := ht
      rw [if_neg (by omega)] at t3
      split at t3
      · rename_i x hx
        simp only [Bool.and_eq_true, decide_eq_true_eq] at t3
        obtain ⟨u1, u2, u3, u4, u5, u6⟩ := t3
        have hup : ¬ zz_up M' = true := by
          unfold zz_up
          rw [decide_eq_true_eq, t2]
          decide
        simp only [zz_wr, e2, if_neg hup] at hw
        simp only [zz_wn, e2, if_neg hup] at hn
        refine ⟨x, hx, (by first | exact u1 | exact decide_eq_true u1 | (unfold covers; first | exact decide_eq_true u1 | simpa using u1)), by rw [u2]; decide, ?_, hn _ (by simp [h5]), u3, 4, u4, u5, u6⟩
        rw [u2]
        exact hw _ (by simp [h5])
      · cases t3
    · cases ht
/-- words by their places -/
theorem zz_places {big ws : List Cond} {ps : List Nat} (f : Cond → Bool) (h : ws.map some = ps.map (fun i => big[i]?)) (hg : ws.all f = true) : ∀ w ∈ ws, w ∈ big.filter f := fun w hw => by
  have h1 : some w ∈ ps.map (fun i => big[i]?) := by rw [← h]; exact List.mem_map.mpr ⟨w, hw, rfl⟩
  obtain ⟨i, -, hi⟩ := List.mem_map.mp h1
  exact List.mem_filter.mpr ⟨List.mem_of_getElem? hi, List.all_eq_true.mp hg w hw⟩
/-- a stretch of rows -/
theorem zz_w_okL {hh : MethodName → List (Nat × Nat × Nat × Nat)} {P : Nat → Option zz_M} {cl : List vw_C} {tf : Nat → Nat → FieldType} {fd : Nat → List Value} {nf : Nat → Nat} {Ts NW : List Cond} {M : zz_M} {l : List zz_N} (hd : ∀ r ∈ l, decode M.1.2.1 r.1 = .ok (r.2.1, r.2.2.1)) (hb : l.all (fun r => zz_wb hh P cl tf fd nf M.1.1.cls M.1.1.name r) = true) (hw : ∀ w ∈ l.flatMap (zz_wr hh P cl M.1.1.cls), w ∈ Ts) (hn : ∀ w ∈ l.flatMap (zz_wn P M.1.1.cls), w ∈ NW) (ht : l.all (fun r => zz_tb hh P M r) = true) : ∀ r ∈ l, decode M.1.2.1 r.1 = .ok (r.2.1, r.2.2.1) ∧ zz_okR cl tf fd nf Ts NW M.1.1.cls M.1.1.name r ∧ zz_okC hh P cl Ts NW M.1.1.cls r ∧ zz_okT hh P Ts NW M r := by
  intro r hr
  have c1 := List.all_eq_true.mp hb r hr
  have c2 : ∀ w ∈ zz_wr hh P cl M.1.1.cls r, w ∈ Ts := fun w h => hw w (List.mem_flatMap.mpr ⟨r, hr, h⟩)
  have c3 : ∀ w ∈ zz_wn P M.1.1.cls r, w ∈ NW := fun w h => hn w (List.mem_flatMap.mpr ⟨r, hr, h⟩)
  exact ⟨hd r hr, zz_w_okR c1 c2 c3, zz_w_okC c1 c2 c3, zz_w_okT (List.all_eq_true.mp ht r hr) c1 c2 c3⟩
theorem zz_w_okM {hh : MethodName → List (Nat × Nat × Nat × Nat)} {P : Nat → Option zz_M} {cl : List vw_C} {tf : Nat → Nat → FieldType} {fd : Nat → List Value} {nf : Nat → Nat} {Ts NW : List Cond} {M : zz_M} (hr : zz_okW hh P cl tf fd nf Ts NW M) (hb : (plainName M.1.1.cls && (decide (M.1.1.cls ≠ "java/lang/invoke/MethodHandle" ∧ M.1.1.cls ≠ "java/lang/invoke/VarHandle") && decide (M.1.2.2.1 ≤ 40))) = true) (hw : ∀ w ∈ [zz_cw hh M, Cond.initialized M.1.1.cls], w ∈ Ts) : zz_okM hh P cl tf fd nf Ts NW M := by
  rw [Bool.and_eq_true, Bool.and_eq_true] at hb
  obtain ⟨b2, b3, b4⟩ := hb
  exact ⟨hr, hw _ (by simp), hw _ (by simp), b2, of_decide_eq_true b3, of_decide_eq_true b4⟩
