/-! ===== what the machine in little does, the machine does ===== -/
def zz_isN : Cond → Bool
  | .methodLinkNest _ _ _ _ => true
  | .fieldLinkNest _ _ _ _ _ _ => true
  | .arrayOver (.object _) => true
  | .arrayOver (.array _) => true
  | .castable _ _ => true
  | .declares _ => true
  | _ => false
theorem zz_Nw_call {w : Cond} (h : zz_isN w = true) {U : State} {g : JFrame} {mk : MethodId} {a : Array Value} (hZ : va_Nw w U) : va_Nw w (U.calling g mk a) := by
  cases w
  case methodLinkNest => exact va_Nw.same (u := U) rfl rfl hZ
  case fieldLinkNest => exact va_Nw.same (u := U) rfl rfl hZ
  case castable => exact va_Nw.same (u := U) rfl rfl hZ
  case declares => exact va_Nw.same (u := U) rfl rfl hZ
  case arrayOver t =>
    cases t
    case object C => exact va_AO.moved (u := U) (U := U.calling g mk a) (Vm.Alike.refl U.vm) hZ
    case array t => exact zz_AOA_moved (u := U) (U := U.calling g mk a) (Vm.Alike.refl U.vm) hZ
    all_goals (simp [zz_isN] at h)
  all_goals (simp [zz_isN] at h)
theorem zz_Nw_warm {w : Cond} (h : zz_isN w = true) {s U : State} (hW : s.WarmedH U.vm) (hZ : va_Nw w s) : va_Nw w U := by
  cases w
  case methodLinkNest => exact va_Nw.warmM hW hZ
  case fieldLinkNest => exact va_Nw.warmF hW hZ
  case castable => exact va_Nw.warmC hW hZ
  case declares => exact va_Nw.warmD hW hZ
  case arrayOver t =>
    cases t
    case object C => exact va_AO.moved hW.alike hZ
    case array t => exact zz_AOA_moved hW.alike hZ
    all_goals (simp [zz_isN] at h)
  all_goals (simp [zz_isN] at h)
def zz_rm (d nc ns : Nat) : Room := { frames := d, cells := nc, slots := ns, locals := 64 * d }
def zz_Pc (D : va_G) (cl : List vw_C) (B : Nat) (O : Nat → Nat) (dA : Nat → ClassId) (NW : List Cond) (X : Nat → Option zz_C) (as : List Value) (h : zz_H) : Array Value → State → Prop := fun v U => v = (as.map (zz_v B O)).toArray ∧ va_P D cl (zz_w B O dA h) U.heap ∧ U.heap.size = B + h.length ∧ h.length ≤ zz_out ∧ va_K D cl (zz_tys dA) U ∧ (∀ w ∈ NW, va_Nw w U) ∧ zz_X U B O X U.heap ∧ zz_Y B O X U U.heap
def zz_Qc (D : va_G) (cl : List vw_C) (B : Nat) (O : Nat → Nat) (dA : Nat → ClassId) (v : Option Value) (hf : zz_H) : Array Value → State → Outcome → State → Prop := fun _ st o t => o = .returned (v.map (zz_v B O)) ∧ va_P D cl (zz_w B O dA hf) t.heap ∧ t.heap.size = B + hf.length ∧ hf.length ≤ zz_out ∧ va_F (fun q => B ≤ q) st t
/-- what holds where a run has thrown -/
def zz_Xc (D : va_G) (cl : List vw_C) (B : Nat) (O : Nat → Nat) (dA : Nat → ClassId) (hf : zz_H) : String → State → State → Prop := fun E st t => E = zz_ise ∧ va_P D cl (zz_w B O dA hf) t.heap ∧ t.heap.size = B + hf.length ∧ hf.length ≤ zz_out ∧ va_F (fun q => B ≤ q) st t
def zz_fin (below : List Frame) (D : va_G) (cl : List vw_C) (B : Nat) (O : Nat → Nat) (dA : Nat → ClassId) (args : Array Value) (s : State) (mc ms : Nat) (o : zz_O) (hf : zz_H) : State → Prop := match o with
  | .inl v => MQ below (zz_Qc D cl B O dA v hf) args s mc ms (fun q => B ≤ q)
  | .inr _ => vx_MQ below (fun _ _ _ _ => False) (zz_Xc D cl B O dA hf) args s mc ms (fun q => B ≤ q)
def zz_St (hh : MethodName → List (Nat × Nat × Nat × Nat)) (P : Nat → Option zz_M) (cl : List vw_C) (tf : Nat → Nat → FieldType) (fd : Nat → List Value) (nf : Nat → Nat) (Ts NW : List Cond) : Prop := zz_G cl tf Ts ∧ (∀ w ∈ Ts, goodWord w = true) ∧ (∀ w ∈ NW, zz_isN w = true) ∧ (∃ q7 : vw_C, cl[7]? = some q7 ∧ q7.1 = "TallySlate$Shelves") ∧ (∃ q14 : vw_C, cl[14]? = some q14 ∧ q14.1 = zz_ise ∧ q14.2.2 = 0 ∧ nf 14 = 6) ∧ ∀ (j : Nat) (M : zz_M), P j = some M → zz_okM hh P cl tf fd nf Ts NW M
theorem zz_X.kept {s : State} {B : Nat} {O : Nat → Nat} {X : Nat → Option zz_C} {H0 H : Heap} (h : zz_X s B O X H0) (hk : ∀ q : Nat, q < B → H[q]? = H0[q]?) : zz_X s B O X H := by
  intro j x hx
  obtain ⟨h1, h2⟩ := h j x hx
  refine ⟨?_, h2⟩
  obtain ⟨t, n, d⟩ | o := x
  · obtain ⟨cell, g1, g2⟩ := h1
    have ha : zz_a B O (zz_out + j) = O j := by
      unfold zz_a
      rw [if_neg (by omega), Nat.add_sub_cancel_left]
    exact ⟨cell, by rw [ha, hk _ h2, ← ha]; exact g1, g2⟩
  · trivial
theorem zz_X.moved {s U : State} {B : Nat} {O : Nat → Nat} {X : Nat → Option zz_C} {H : Heap} (hvm : s.vm.Alike U.vm) (h : zz_X s B O X H) : zz_X U B O X H := by
  intro j x hx
  obtain ⟨h1, h2⟩ := h j x hx
  refine ⟨?_, h2⟩
  obtain ⟨t, n, d⟩ | o := x
  · obtain ⟨cell, g1, g2, g3⟩ := h1
    exact ⟨cell, g1, State.isArrayOf_alike hvm g2, g3⟩
  · trivial
theorem zz_blind {D : va_G} {cl : List vw_C} {B : Nat} {O : Nat → Nat} {dA : Nat → ClassId} {NW : List Cond} {X : Nat → Option zz_C} {as : List Value} {h : zz_H} (hN : ∀ w ∈ NW, zz_isN w = true) : FrameBlind (zz_Pc D cl B O dA NW X as h) := by
  intro a U g mk q
  obtain ⟨q0, q1, q2, q3, q4, q5, q6, q7⟩ := q
  exact ⟨q0, q1, q2, q3, va_K.moved (u := U) (U := U.calling g mk a) (Vm.Alike.refl U.vm) q4, fun w hw => zz_Nw_call (hN w hw) (q5 w hw), zz_X.moved (s := U) (U := U.calling g mk a) (Vm.Alike.refl U.vm) q6, zz_Y.same (s := U) (U := U.calling g mk a) rfl q7⟩
section ZZ
variable {p : Program} {l : Launch} {e : Env} {R : Room} {s : State} {m : MethodId} {args : Array Value} {below : List Frame} {meth : Method} {c : Code} {H : Heap} {locs : List Loc} {cells slots : Nat} {Q : State → Prop}
variable {cc : ByteArray} {B : Nat} {O : Nat → Nat} {D : va_G} {cl : List vw_C} {dA : Nat → ClassId} {H0 : Heap} {h h' : zz_H}
theorem zz_called {pc mc ms : Nat} {ls : Array Slot} {st0 rest : List Value} {a : Array Value} {v : Option Value} (hr : va_Run p l e R s m args below meth c H locs cells slots mc ms (F0 m pc ls st0) rest (zz_Qc D cl B O dA v h' a) (fun q => B ≤ q)) (hR : zz_R D cl B O dA H0 locs h H)
    (kk : ∀ (H1 : Heap) (locs1 : List Loc), zz_R D cl B O dA H0 locs1 h' H1 → W p l e R s m args below meth c H1 locs1 (cells + mc) (slots + ms) Q (F0 m (pc + 3) ls ((v.map (zz_v B O)).toList ++ rest))) : W p l e R s m args below meth c H locs cells slots Q (F0 m pc ls st0) := by
  intro T hT Xs
  obtain ⟨v1, st₀, t, T', L, h0, X', hL, e1, e2, ⟨hv, hP, hz, hl, hzF, hkF⟩, st⟩ := hr T hT Xs
  cases hv
  rw [h0] at hzF hkF
  obtain ⟨hP0, hS0, hz0, hl0, hB0⟩ := hR
  have hS1 : va_S (fun q => B ≤ q) H0 T'.heap (locs ++ L) := ⟨Nat.le_trans hS0.1 (by rw [e1]; exact hzF), fun q h1 h2 => by rw [e1, hkF q (Nat.lt_of_lt_of_le h1 hS0.1) h2]; exact hS0.2.1 q h1 h2, fun q hq => by
      rcases List.mem_append.mp hq with h | h
      · exact hS0.2.2 q h
      · exact hL q h⟩
  obtain ⟨t2, a1, b1⟩ := kk T'.heap (locs ++ L) ⟨by rw [e1]; exact hP, hS1, by rw [e1]; exact hz, hl, hB0⟩ T' rfl X'
  exact ⟨t2, st t2 a1, b1⟩
theorem zz_calledX {pc mc ms : Nat} {ls : Array Slot} {st0 rest : List Value} {Qa : State → Outcome → State → Prop} (hQa : ∀ a b c, ¬ Qa a b c) (hr : vx_Run p l e R s m args below meth c H locs cells slots mc ms (F0 m pc ls st0) rest Qa (zz_Xc D cl B O dA h') (fun q => B ≤ q)) (hR : zz_R D cl B O dA H0 locs h H)
    (kx : ∀ (H1 : Heap) (locs1 : List Loc) (q9 : Addr) (ce : Cell), zz_R D cl B O dA H0 locs1 h' H1 → H1[q9]? = some ce → ce.vm = .none → s.vm.findClass zz_ise = some ce.cls → vx_W p l e R s m args below meth c H1 locs1 (cells + mc) (slots + ms) Q (F0 m pc ls rest) q9) : W p l e R s m args below meth c H locs cells slots Q (F0 m pc ls st0) := by
  intro T hT Xs
  rcases hr T hT Xs with ⟨v1, st₀, t, T', L, h0, X', hL, e1, e2, hq, st⟩ | ⟨q, st₀, t, T', L, E, ce, h0, X', hL, e1, e2, ⟨hE, hP, hz, hl, hzF, hkF⟩, hce, hcv, hcl, st⟩
  · exact absurd hq (hQa _ _ _)
  · subst hE
    rw [h0] at hzF hkF
    obtain ⟨hP0, hS0, hz0, hl0, hB0⟩ := hR
    have hS1 : va_S (fun q => B ≤ q) H0 T'.heap (locs ++ L) := ⟨Nat.le_trans hS0.1 (by rw [e1]; exact hzF), fun q h1 h2 => by rw [e1, hkF q (Nat.lt_of_lt_of_le h1 hS0.1) h2]; exact hS0.2.1 q h1 h2, fun q hq => by
        rcases List.mem_append.mp hq with h | h
        · exact hS0.2.2 q h
        · exact hL q h⟩
    obtain ⟨t2, a1, b1⟩ := kx T'.heap (locs ++ L) q ce ⟨by rw [e1]; exact hP, hS1, by rw [e1]; exact hz, hl, hB0⟩ (by rw [e1]; exact hce) hcv hcl T' rfl X'
    exact ⟨t2, st.trans a1, b1⟩
theorem zz_good {Ts : List Cond} (hg : ∀ w ∈ Ts, goodWord w = true) {ws : List Cond} (h : ∀ w ∈ ws, w ∈ Ts) : GoodIn Ts ws := fun w hw => ⟨h w hw, good_of_word (hg w (h w hw))⟩
end ZZ
