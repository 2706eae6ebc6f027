/-! ===== PURE: both sides at the end of a list ===== -/
def wnt (k : Nat) : Nat := if k = 3 ∨ 19 ≤ k then 2 else 1
def whi (w : Nat) : Nat := if w < 11 then 0 else if w = 16 then 6 else if w = 40 then 3 else wnt (w - 11)
def wlo (w : Nat) : Nat := if w = 16 then 0 else whi w
/-- how many a word wants -/
def oY (X : Nat → Option zz_C) : Prop := ∀ w, w < 41 → hcl X [] (zz_out + (w + 1)) 20 = true ∧ hgi X [] (zz_out + (w + 1)) 20 1 = some (Int32.ofNat (wlo w)) ∧ hgi X [] (zz_out + (w + 1)) 20 2 = some (Int32.ofNat (whi w))
def rWn (s : mS) : Prop := ∀ k, k < 30 → s.2.2.1 1 k = Int32.ofNat (wnt k)
theorem rWn.kp {e : Nat} {s s' : mS} (h : rWn s) (f : fQ e s s') : rWn s' := fun k hk => by rw [f.2.2.1 1 (by omega)]; exact h k hk
section LEN
variable {N : Nat} {X : Nat → Option zz_C} {t t' : cS} {s s' : mS} {b : Nat → Nat} {n p e i op D D' : Nat} {code code1 code2 fl : List Ins} {vs : List (List Nat)} {cl : List Cn} {W W' : List Wt} {cu cu' : List Nat} {fs : Nat × Nat × Nat} {al : Int32} {rk : Nat → List Value → cS → kO}
theorem c_kindNow : cf_42 N X t = some (t, .inl (some (.int (kI t 3 5)))) := rfl
theorem c_placeNow : cf_243 N X t = some (t, .inl (some (.int (kI t 3 6)))) := rfl
theorem c_valueNow : cf_244 N X t = some (t, .inl (some (.long (kL t 3 7)))) := rfl
theorem c_count : cf_41 N X t = some (t, .inl (some (.int (kI t 3 3)))) := rfl
theorem pR.cnt (h : pR b n i op t s) : kI t 3 3 = Int32.ofNat (TL b n).length := by
  have := h.1.1
  rw [List.length_map] at this
  exact this
/-- one act more -/
theorem PEg.em1 {c : Ins} {cp : List Cn} {js : Nat} {k a v : Int32} (h : PEg b n p e i op D code code1 vs cl cp W cu fs t s) (hcv : c.1 = 9 ∨ c.1 = 10 → ∃ x ∈ cp, x.1 = code.length) (hjs : (js = fs.2.1 ∧ noJ c) ∨ js = code.length + 1) (hI : cI code (posC code code.length) c = [(k, a, v)]) (hc : tgO code.length c) (he : eff c cu = some cu') (ho : okI vs.length c) (hD : D' + 1 ≤ D) (hD2 : rlen c + xlen c ≤ 1 ∨ D' + (rlen c + xlen c) ≤ D) : ∃ t', cf_209 N X p k a v t = some (t', .inl (some (.int (Int32.ofNat (cx code))))) ∧ PEg b n p e i op D' (code ++ [c]) code1 vs cl cp W cu' (fs.1, js, fs.2.2) t' s ∧ FR p e t t' s s := by
  have hrm : rmG t := h.1.1.2.2.2.2.2.2.2
  have hll := h.1.now
  have hcx := h.2.2.2.2.2.2.2.2.2.2.2.2
  obtain ⟨t', a1, a2, a3, a4⟩ := c_emit (N := N) (X := X) (k := k) (a := a) (v := v) h.2.1 hrm (by rw [CA_len]; obtain ⟨hi, e5, e6, e7, hkk, ho, he, hlt, hll⟩ := hll; omega)
  rw [CA_len] at a1
  obtain ⟨b1, b2⟩ := h.cEm hcv hjs hc he ho (by rw [hI]; exact a2) a3 a4 hD hD2
  exact ⟨t', a1, b1, b2⟩
theorem PE.em1 {c : Ins} {k a v : Int32} (h : PE b n p e i op D code code1 vs cl W cu fs t s) (hI : cI code (posC code code.length) c = [(k, a, v)]) (hc : tgO code.length c) (he : eff c cu = some cu') (ho : okI vs.length c) (hD : D' + 1 ≤ D) (hD2 : rlen c + xlen c ≤ 1 ∨ D' + (rlen c + xlen c) ≤ D) (hx : xp c := by unfold xp noJ; simp) : ∃ t', cf_209 N X p k a v t = some (t', .inl (some (.int (Int32.ofNat (cx code))))) ∧ PE b n p e i op D' (code ++ [c]) code1 vs cl W cu' fs t' s ∧ FR p e t t' s s := PEg.em1 h (fun z => absurd z hx.1) (Or.inl ⟨rfl, hx.2⟩) hI hc he ho hD hD2
/-- what has waited, and still can be read -/
def slt (s : mS) (m : Nat) (w : Wt) : Prop := s.2.2.1 38 m = Int32.ofNat w.1 ∧ s.2.2.1 39 m = Int32.ofNat w.2.1 ∧ s.2.2.1 40 m = Int32.ofNat w.2.2.1 ∧ s.2.2.1 41 m = Int32.ofNat w.2.2.2.1 ∧ (6 ≤ w.1 → s.2.2.2 42 m = w.2.2.2.2.1 ∧ s.2.2.1 43 m = Int32.ofNat w.2.2.2.2.2)
/-- what is left of ends2 behind the bracket -/
def E2 (N q m : Nat) (c : Int32) (s : mS) : mO := if q = 5 then mf_290_38 N (Int32.ofNat m) c s else mf_290_114 N (Int32.ofNat m) c s
theorem slt.kp {m : Nat} {w : Wt} (h : slt s m w) (f : fPs s s') : slt s' m w := by
  unfold slt at h ⊢
  rw [f.2.2.1 38 (fun z => z), f.2.2.1 39 (fun z => z), f.2.2.1 40 (fun z => z), f.2.2.1 41 (fun z => z), f.2.2.1 43 (fun z => z), f.2.2.2 42 (fun z => z)]
  exact h
/-- the fault of a token that is there -/
theorem PE.ft {x : Nat} (h : PE b n p e i op D code code1 vs cl W cu fs t s) (hx : 2 ≤ x ∧ x ≤ 6) (hk : ∀ hi : i < (TL b n).length, ¬ (TL b n)[i].1 = 1) : ∃ t', cf_202 N X 0 (Int32.ofNat x) t = some (t', .inr ()) ∧ (∃ hi : i < (TL b n).length, mf_261 N (Int32.ofNat x) (Int32.ofNat (TL b n)[i].2.2.2.1) s = some (flt s (Int32.ofNat x) (Int32.ofNat (TL b n)[i].2.2.2.1), none) ∧ s.1 6 = Int32.ofNat (TL b n)[i].2.2.2.1 ∧ pF t' (flt s (Int32.ofNat x) (Int32.ofNat (TL b n)[i].2.2.2.1)) ∧ FX p e t t' s (flt s (Int32.ofNat x) (Int32.ofNat (TL b n)[i].2.2.2.1))) := by
  obtain ⟨t', a1, a2, ⟨hi, a3, a4⟩⟩ := c_fail (N := N) (X := X) (x := x) h.1 (by omega)
  obtain ⟨hi', e5, e6, e7, hkk, ho, he, hlt, hll⟩ := h.1.now
  rw [if_neg (hk hi)] at a3
  have h9 : s.1 9 = 0 := h.1.2.2.2.2.2.2.2.2.2
  have hat := TL_at hi
  have hn : n ≤ 1600 := h.1.2.2.2.2.1
  refine ⟨t', a1, hi, r_breaks h9, hkk.1, ⟨x, (TL b n)[i].2.2.2.1, by omega, hx.2, by omega, a3, a4, rfl, rfl⟩, a2.mono eP_Q (fun _ z => z.elim), ⟨fun q r => ?_, fun _ _ => rfl, fun _ _ => rfl, fun _ _ => rfl, fun _ _ _ _ => rfl, fun z => z⟩, h.oB.kp rfl, h.szF a2⟩
  show (if q = 10 then _ else if q = 9 then _ else s.1 q) = _
  rw [if_neg (by omega), if_neg (by omega)]
end LEN
