/-! ===== rows on heaps that bear a state ===== -/
def kcp {α : Type} (z : α) (f : Nat → α) (n : Nat) : Nat → α := va_cpy f (fun _ => z) 0 0 n
section KS
variable {h h' : zz_H} {t t' : cS} {s : mS} {X : Nat → Option zz_C}
theorem kP_lt {q : Nat} (hq : q = 12 ∨ q = 21) : q < 111 := by omega
theorem kP_rng {q j : Nat} (hq : q = 12 ∨ q = 21) (h1 : 0 < j) (h2 : j < 9) : q + j < 111 ∧ q + j ≠ 41 := by omega
theorem kOwn_P1 {q : Nat} (hq : q = 12 ∨ q = 21) : kOwn (q + 1) = q := by rcases hq with rfl | rfl <;> rfl
theorem kOwn_P2 {q : Nat} (hq : q = 12 ∨ q = 21) : kOwn (q + 2) = q := by rcases hq with rfl | rfl <;> rfl
theorem kOwn_P3 {q : Nat} (hq : q = 12 ∨ q = 21) : kOwn (q + 3) = q := by rcases hq with rfl | rfl <;> rfl
theorem ka_S1 {k : Nat} (e : kH t k = true) : kVa t (2000000 + 20 * k + 1) = some (.inl (5, 8, .inr (.inr (.inr (.inr fun i => if i < 8 then some (kD t (2000000 + 20 * k + 1 + 1 + i)) else none))))) := by
  have e1 : (2000000 + 20 * k + 1 - 2000000) / 20 = k := by omega
  have e2 : (2000000 + 20 * k + 1 - 2000000) % 20 = 1 := by omega
  unfold kVa
  rw [if_neg (by omega), e1, if_pos e, e2]
  rfl
theorem ka_S10 {k : Nat} (e : kH t k = true) : kVa t (2000000 + 20 * k + 10) = some (.inl (0, (kA t (2000000 + 20 * k + 10)).1, .inl (kA t (2000000 + 20 * k + 10)).2)) := by
  have e1 : (2000000 + 20 * k + 10 - 2000000) / 20 = k := by omega
  have e2 : (2000000 + 20 * k + 10 - 2000000) % 20 = 10 := by omega
  unfold kVa
  rw [if_neg (by omega), e1, if_pos e, e2]
  rfl
theorem ka_Sr {k : Nat} {i : Int32} (e : kH t k = true) (hi : ¬ (i < 0 ∨ 8 ≤ i.toNatClampNeg)) : kVa t (2000000 + 20 * k + 1 + 1 + i.toNatClampNeg) = some (.inl (0, (kA t (2000000 + 20 * k + 1 + 1 + i.toNatClampNeg)).1, .inl (kA t (2000000 + 20 * k + 1 + 1 + i.toNatClampNeg)).2)) := by
  have hi : ¬ 8 ≤ i.toNatClampNeg := fun q => hi (Or.inr q)
  generalize i.toNatClampNeg = j at hi ⊢
  have e1 : (2000000 + 20 * k + 1 + 1 + j - 2000000) / 20 = k := by omega
  have e2 : (2000000 + 20 * k + 1 + 1 + j - 2000000) % 20 = 2 + j := by omega
  unfold kVa
  rw [if_neg (by omega), e1, if_pos e, e2]
  unfold kVaS
  rw [if_neg (by omega), if_neg (by omega)]
  rfl
/-! getting -/
theorem zz_J.g {P : Nat → Option zz_M} {tf : Nat → Nat → FieldType} {fd : Nat → List Value} {d : Nat} {M : zz_M} {pc : Nat} {lv : List (Nat × Value)} {st : List Value} {Q : zz_O → zz_H → Prop} (pc' : Nat) {a ci k cp pc0 : Nat} {nn : Int} {v : Value} (hrow : zz_row M pc = some (pc0, .getfield cp, 3, ci, k, nn)) (e : hgv X h a ci k = some v) (hp : pc + 3 = pc') (kk : zz_J P tf fd X d M pc' lv (v :: st) h Q) : zz_J P tf fd X d M pc lv (.ref a :: st) h Q := by
  subst hp
  exact zz_J.i hrow rfl (hgv_step e) kk
theorem kR.ai (hR : kR h t s) {k x n : Nat} {g : Nat → Int32} {i w : Int32} (e : kVa t k = some (.inl (0, n, .inl g))) (hx : kD t k = x) (hi : ¬ (i < 0 ∨ n ≤ i.toNatClampNeg)) (hw : g i.toNatClampNeg = w) : hai X h x i = some w := by
  unfold hai
  rw [hR.rdA e hx]
  dsimp only
  rw [if_pos ⟨rfl, hi⟩, hw]
theorem kR.ab (hR : kR h t s) {k x n ty : Nat} {g : Nat → Int32} {i w : Int32} (e : kVa t k = some (.inl (ty, n, .inl g))) (hx : kD t k = x) (ht : ty = 2 ∨ ty = 3) (hi : ¬ (i < 0 ∨ n ≤ i.toNatClampNeg)) (hw : g i.toNatClampNeg = w) : hab X h x i = some w := by
  unfold hab
  rw [hR.rdA e hx]
  dsimp only
  rw [if_pos ⟨ht, hi⟩, hw]
theorem kR.al (hR : kR h t s) {k x n : Nat} {g : Nat → Int64} {i : Int32} {w : Int64} (e : kVa t k = some (.inl (1, n, .inr (.inl g)))) (hx : kD t k = x) (hi : ¬ (i < 0 ∨ n ≤ i.toNatClampNeg)) (hw : g i.toNatClampNeg = w) : hal X h x i = some w := by
  unfold hal
  rw [hR.rdA e hx]
  dsimp only
  rw [if_pos ⟨rfl, hi⟩, hw]
theorem kR.ln (hR : kR h t s) {k x ty n : Nat} {g : (Nat → Int32) ⊕ (Nat → Int64) ⊕ (Nat → UInt32) ⊕ (Nat → UInt64) ⊕ (Nat → Option Nat)} {w : Int32} (e : kVa t k = some (.inl (ty, n, g))) (hx : kD t k = x) (ht : ty < 6) (hw : Int32.ofNat n = w) : hlen X h x = some w := by
  unfold hlen
  rw [hR.rdA e hx]
  dsimp only
  rw [if_pos (Or.inl ht), hw]
theorem kR.arS (hR : kR h t s) {k : Nat} {i : Int32} (e : kH t k = true) (hi : ¬ (i < 0 ∨ 8 ≤ i.toNatClampNeg)) : har X h (kD t (2000000 + 20 * k + 1)) i = some (kD t (2000000 + 20 * k + 1 + 1 + i.toNatClampNeg)) := by
  unfold har haq
  rw [hR.rdA (ka_S1 e) rfl]
  dsimp only
  rw [if_pos ⟨⟨by decide, Or.inl (by decide)⟩, hi⟩, if_pos (by omega)]
theorem kR.aqM (hR : kR h t s) {i : Int32} (hi : ¬ (i < 0 ∨ 6 ≤ i.toNatClampNeg)) : haq X h (kD t 41) i = some (kM t i.toNatClampNeg) := by
  unfold haq
  rw [hR.rdA ka_41 rfl]
  dsimp only
  rw [if_pos ⟨⟨by decide, Or.inl (by decide)⟩, hi⟩]
theorem kR.arM (hR : kR h t s) {i : Int32} {w : Nat} (hi : ¬ (i < 0 ∨ 6 ≤ i.toNatClampNeg)) (e : kM t i.toNatClampNeg = some w) : har X h (kD t 41) i = some w := by
  unfold har
  rw [hR.aqM hi, e]
/-! outside -/
theorem hx_rd {w : Nat} (hw : ¬ w < zz_out) : zz_rd X h w = zz_rd X [] w := by
  unfold zz_rd
  rw [if_neg hw, if_neg hw]
theorem hx_ai {w : Nat} {i : Int32} (hw : ¬ w < zz_out) : hai X h w i = hai X [] w i := by
  unfold hai
  rw [hx_rd hw]
theorem hx_al {w : Nat} {i : Int32} (hw : ¬ w < zz_out) : hal X h w i = hal X [] w i := by
  unfold hal
  rw [hx_rd hw]
theorem hx_ab {w : Nat} {i : Int32} (hw : ¬ w < zz_out) : hab X h w i = hab X [] w i := by
  unfold hab
  rw [hx_rd hw]
theorem hx_ar {w : Nat} {i : Int32} (hw : ¬ w < zz_out) : har X h w i = har X [] w i := by
  unfold har haq
  rw [hx_rd hw]
theorem hx_ln {w : Nat} (hw : ¬ w < zz_out) : hlen X h w = hlen X [] w := by
  unfold hlen
  rw [hx_rd hw]
theorem hx_cl {w : Nat} {nn : Int} (hw : ¬ w < zz_out) : hcl X h w nn = hcl X [] w nn := by
  unfold hcl
  rw [hx_rd hw]
/-! putting -/
theorem kR.pI (hR : kR h t s) {k ci f : Nat} {fs : List Value} {x : Int32} (hk : k < 111) (h0 : kVo t k = some (.inr (ci, fs))) (h1 : kVo (jI t k f x) k = some (.inr (ci, fs.set f (.int x)))) (hf : f < fs.length) (hfit : zz_fit (zt_tf ci f) (.int x) = true) : ∃ h', hpv h k ci f (.int x) = some h' ∧ kR h' (jI t k f x) s := by
  refine ⟨h.set k (.inr (ci, fs.set f (.int x))), ?_, hR.setO h0 (fun _ e => kVo_jI e) h1 (fun _ => rfl) rfl rfl (fun _ => kVs_jI (by omega)) rfl rfl rfl⟩
  unfold hpv
  rw [hR.atO h0]
  dsimp only
  rw [if_pos ⟨rfl, hf, hfit⟩]
theorem kR.pL (hR : kR h t s) {k ci f : Nat} {fs : List Value} {x : Int64} (_ : k < 111) (h0 : kVo t k = some (.inr (ci, fs))) (h1 : kVo (jL t k f x) k = some (.inr (ci, fs.set f (.long x)))) (hf : f < fs.length) (hfit : zz_fit (zt_tf ci f) (.long x) = true) : ∃ h', hpv h k ci f (.long x) = some h' ∧ kR h' (jL t k f x) s := by
  refine ⟨h.set k (.inr (ci, fs.set f (.long x))), ?_, hR.setO h0 (fun _ e => kVo_jL e) h1 (fun _ => rfl) rfl rfl (fun _ => rfl) rfl rfl rfl⟩
  unfold hpv
  rw [hR.atO h0]
  dsimp only
  rw [if_pos ⟨rfl, hf, hfit⟩]
theorem kR.pP (hR : kR h t s) {k ci f : Nat} {fs : List Value} {x : Option Nat} (_ : k < 111) (h0 : kVo t k = some (.inr (ci, fs))) (h1 : kVo (jP t k f x) k = some (.inr (ci, fs.set f (zz_rv x)))) (hf : f < fs.length) (hfit : zz_fit (zt_tf ci f) (zz_rv x) = true) : ∃ h', hpv h k ci f (zz_rv x) = some h' ∧ kR h' (jP t k f x) s := by
  refine ⟨h.set k (.inr (ci, fs.set f (zz_rv x))), ?_, hR.setO h0 (fun _ e => kVo_jP e) h1 (fun _ => rfl) rfl rfl (fun _ => rfl) rfl rfl rfl⟩
  unfold hpv
  rw [hR.atO h0]
  dsimp only
  rw [if_pos ⟨rfl, hf, hfit⟩]
theorem kR.pS (hR : kR h t s) {k : Nat} {x : Int32} (e : kH t k = true) : ∃ h', hpv h k 7 2 (.int x) = some h' ∧ kR h' (jI t (3000000 + k) 2 x) s := by
  refine ⟨h.set k (kVs (jI t (3000000 + k) 2 x) k), ?_, hR.setS e (fun q => ?_) (fun _ => rfl) rfl rfl (fun q hq => kVs_jI (by omega)) rfl rfl⟩
  · unfold hpv
    rw [hR.atS e]
    unfold kVs
    dsimp only
    rw [if_pos ⟨rfl, Nat.le_of_ble_eq_true rfl, rfl⟩]
    have e1 : kI (jI t (3000000 + k) 2 x) (3000000 + k) 2 = x := if_pos ⟨rfl, rfl⟩
    rw [e1]
    rfl
  · by_cases hq : q = 3000000 + k
    · rw [kVo_big (by omega), kVo_big (by omega)]
    · exact kVo_jI hq
theorem kVa_jA_self {k ty : Nat} {g : Nat → Int32} (e : kVa t k = some (.inl (ty, (kA t k).1, .inl (kA t k).2))) : kVa (jA t k g) k = some (.inl (ty, (kA t k).1, .inl g)) := by
  have eA : kA (jA t k g) k = ((kA t k).1, g) := if_pos rfl
  have ei : ∀ ty, kint (jA t k g) ty k = some (.inl (ty, (kA t k).1, .inl g)) := fun ty => by
    unfold kint
    rw [eA]
  have ei0 : ∀ ty, kint t ty k = some (.inl (ty, (kA t k).1, .inl (kA t k).2)) := fun _ => rfl
  have eZ : kZ (jA t k g) = kZ t := rfl
  have eH : kH (jA t k g) = kH t := rfl
  unfold kVa at e ⊢
  split at e
  · rename_i hk
    rw [if_pos hk]
    unfold kVa0 at e ⊢
    split at e <;> first
      | (rw [ei0] at e; simp only [ei]; cases e; rfl)
      | (simp [klng] at e; done)
      | (simp at e; done)
      | (rw [eZ]
         split at e
         · rw [ei0] at e
           rename_i hz
           rw [if_pos hz, ei]
           cases e
           rfl
         · rename_i hz
           rw [if_neg hz]
           split at e
           · simp [klng] at e
           · rename_i hz2
             rw [if_neg hz2]
             split at e
             · rw [ei0] at e
               rename_i hz3
               rw [if_pos hz3, ei]
               cases e
               rfl
             · cases e)
  · rename_i hk
    rw [if_neg hk, eH]
    split at e
    · rename_i hh
      rw [if_pos hh]
      unfold kVaS at e ⊢
      split at e
      · simp at e
      · rename_i h1
        rw [if_neg h1]
        split at e
        · cases e
        · rename_i h2
          rw [if_neg h2, ei]
          rw [ei0] at e
          cases e
          rfl
    · cases e
theorem kVa_jB_self {k : Nat} {g : Nat → Int64} (e : kVa t k = some (.inl (1, (kB t k).1, .inr (.inl (kB t k).2)))) : kVa (jB t k g) k = some (.inl (1, (kB t k).1, .inr (.inl g))) := by
  have eA : kB (jB t k g) k = ((kB t k).1, g) := if_pos rfl
  have ei : klng (jB t k g) k = some (.inl (1, (kB t k).1, .inr (.inl g))) := by
    unfold klng
    rw [eA]
  have eZ : kZ (jB t k g) = kZ t := rfl
  have eH : kH (jB t k g) = kH t := rfl
  unfold kVa at e ⊢
  split at e
  · rename_i hk
    rw [if_pos hk]
    unfold kVa0 at e ⊢
    split at e <;> first
      | exact ei
      | (simp [kint] at e; done)
      | (simp at e; done)
      | (rw [eZ]
         split at e
         · simp [kint] at e
         · rename_i hz
           rw [if_neg hz]
           split at e
           · rename_i hz2
             rw [if_pos hz2, ei]
           · rename_i hz2
             rw [if_neg hz2]
             split at e
             · simp [kint] at e
             · cases e)
  · rename_i hk
    split at e
    · unfold kVaS at e
      split at e
      · simp at e
      · split at e
        · cases e
        · simp [kint] at e
    · cases e
theorem kR.si (hR : kR h t s) {k x0 : Nat} {i x : Int32} (e : kVa t k = some (.inl (0, (kA t k).1, .inl (kA t k).2))) (hx : kD t k = x0) (hi : ¬ (i < 0 ∨ (kA t k).1 ≤ i.toNatClampNeg)) : ∃ h', hsi h x0 i x = some h' ∧ kR h' (jA t k (upd (kA t k).2 i.toNatClampNeg x)) s := by
  subst hx
  refine ⟨h.set (kD t k) (.inl (0, (kA t k).1, .inl (upd (kA t k).2 i.toNatClampNeg x))), ?_, hR.setA e (fun _ => rfl) (fun _ q => kVa_jA q) (kVa_jA_self e) rfl rfl (fun _ => rfl) rfl rfl rfl⟩
  unfold hsi
  rw [hR.atA e rfl]
  dsimp only
  rw [if_pos ⟨rfl, hi⟩]
theorem kR.sb (hR : kR h t s) {k x0 ty : Nat} {i x : Int32} (e : kVa t k = some (.inl (ty, (kA t k).1, .inl (kA t k).2))) (hx : kD t k = x0) (ht : ty = 2 ∨ ty = 3) (hi : ¬ (i < 0 ∨ (kA t k).1 ≤ i.toNatClampNeg)) : ∃ h', hsb h x0 i x = some h' ∧ kR h' (jA t k (upd (kA t k).2 i.toNatClampNeg (vp_nar (zz_ty ty) x))) s := by
  subst hx
  refine ⟨h.set (kD t k) (.inl (ty, (kA t k).1, .inl (upd (kA t k).2 i.toNatClampNeg (vp_nar (zz_ty ty) x)))), ?_, hR.setA e (fun _ => rfl) (fun _ q => kVa_jA q) (kVa_jA_self e) rfl rfl (fun _ => rfl) rfl rfl rfl⟩
  unfold hsb
  rw [hR.atA e rfl]
  dsimp only
  rw [if_pos ⟨ht, hi⟩]
theorem kR.sl (hR : kR h t s) {k x0 : Nat} {i : Int32} {x : Int64} (e : kVa t k = some (.inl (1, (kB t k).1, .inr (.inl (kB t k).2)))) (hx : kD t k = x0) (hi : ¬ (i < 0 ∨ (kB t k).1 ≤ i.toNatClampNeg)) : ∃ h', hsl h x0 i x = some h' ∧ kR h' (jB t k (vp_updL (kB t k).2 i.toNatClampNeg x)) s := by
  subst hx
  refine ⟨h.set (kD t k) (.inl (1, (kB t k).1, .inr (.inl (vp_updL (kB t k).2 i.toNatClampNeg x)))), ?_, hR.setA e (fun _ => rfl) (fun _ q => kVa_jB q) (kVa_jB_self e) rfl rfl (fun _ => rfl) rfl rfl rfl⟩
  unfold hsl
  rw [hR.atA e rfl]
  dsimp only
  rw [if_pos ⟨rfl, hi⟩]
theorem kVa_jM {k : Nat} {g : Nat → Option Nat} (hk : k ≠ 41) : kVa (jM t g) k = kVa t k := by
  unfold kVa kVa0
  by_cases h1 : k < 2000000
  · rw [if_pos h1, if_pos h1]
    split <;> first | rfl | (exfalso; omega)
  · rw [if_neg h1, if_neg h1]
    rfl
theorem kR.stM (hR : kR h t s) {i : Int32} {v x0 : Nat} (hv : kH t v = true) (hi : ¬ (i < 0 ∨ 6 ≤ i.toNatClampNeg)) (hx : kD t 41 = x0) : ∃ h', hst 0 h x0 i v = some h' ∧ kR h' (jM t (va_up (kM t) i.toNatClampNeg (some v))) s := by
  subst hx
  refine ⟨h.set (kD t 41) (.inl (4, 6, .inr (.inr (.inr (.inr (va_up (kM t) i.toNatClampNeg (some v))))))), ?_, hR.setA ka_41 (fun _ => rfl) (fun _ q => kVa_jM q) rfl rfl rfl (fun _ => rfl) rfl rfl rfl⟩
  have e1 := hR.atS hv
  unfold kVs at e1
  unfold hst zz_aast
  rw [if_neg (by decide)]
  simp only [hR.atA ka_41 rfl, e1]
  first | rw [if_pos ⟨trivial, trivial, hi⟩] | rw [if_pos ⟨rfl, rfl, hi⟩] | rw [if_pos ⟨trivial, rfl, hi⟩] | (simp only [true_and]; rw [if_pos hi])
theorem kR.cp (hR : kR h t s) {k0 x0 k1 x1 : Nat} {sp dp n : Int32} (e0 : kVa t k0 = some (.inl (0, (kA t k0).1, .inl (kA t k0).2))) (hx0 : kD t k0 = x0) (e1 : kVa t k1 = some (.inl (0, (kA t k1).1, .inl (kA t k1).2))) (hx1 : kD t k1 = x1) (g : ¬ sp < 0 ∧ ¬ dp < 0 ∧ ¬ n < 0 ∧ sp.toNatClampNeg + n.toNatClampNeg ≤ (kA t k0).1 ∧ dp.toNatClampNeg + n.toNatClampNeg ≤ (kA t k1).1) : ∃ h', hcp h x0 sp x1 dp n = some h' ∧ kR h' (jA t k1 (va_cpy (kA t k0).2 (kA t k1).2 sp.toNatClampNeg dp.toNatClampNeg n.toNatClampNeg)) s := by
  subst hx0
  subst hx1
  refine ⟨h.set (kD t k1) (.inl (0, (kA t k1).1, .inl (va_cpy (kA t k0).2 (kA t k1).2 sp.toNatClampNeg dp.toNatClampNeg n.toNatClampNeg))), ?_, hR.setA e1 (fun _ => rfl) (fun _ q => kVa_jA q) (kVa_jA_self e1) rfl rfl (fun _ => rfl) rfl rfl rfl⟩
  unfold hcp zz_acp
  simp only [hR.atA e0 rfl, hR.atA e1 rfl]
  rw [if_pos ⟨by decide, g⟩]
/-! new cells -/
theorem kR.room (hR : kR h t s) (e : kN t + 1 < zz_out) : h.length < zz_out := by
  rw [hR.len]
  omega
theorem kR.app (hR : kR h t s) {c : zz_C} (g1 : ∀ k, kVo t' k = kVo t k) (g2 : ∀ k, k ≠ 111 → kVa t' k = kVa t k) (g3 : ∀ c', kVa t' 111 = some c' → (kVa t 111 = some c' ∧ kD t' 111 = kD t 111) ∨ (c' = c ∧ kD t' 111 = kN t)) (gD : ∀ k, k ≠ 111 → kD t' k = kD t k) (gH : kH t' = kH t) (gs : ∀ k, kVs t' k = kVs t k) (gN : kN t' = kN t + 1) (gQ : kQ t' = kQ t + zz_sz zt_nf c) (hr : kN t + 1 < zz_out) : kR (h ++ [c]) t' s := by
  obtain ⟨own, h1, h2, h3, h4, h5, h6, h7⟩ := hR
  have keep : ∀ {x : Nat} {c0 : zz_C}, h[x]? = some c0 → (h ++ [c])[x]? = some c0 ∧ x ≠ kN t := fun {x c0} hx => by
    have hl := (List.getElem?_eq_some_iff.mp hx).1
    exact ⟨by rw [List.getElem?_append_left hl]; exact hx, by omega⟩
  have ho : ∀ x, x ≠ kN t → (if x = kN t then 4 * 111 + 1 else own x) = own x := fun x hx => if_neg hx
  refine ⟨fun x => if x = kN t then 4 * 111 + 1 else own x, ?_, ?_, ?_, ?_, ?_, ?_, ?_⟩
  · intro k c0 hk
    rw [g1] at hk
    obtain ⟨e1, o1⟩ := h1 k c0 hk
    obtain ⟨e2, n2⟩ := keep e1
    exact ⟨e2, (ho _ n2).trans o1⟩
  · intro k c0 hk
    by_cases hkk : k = 111
    · subst hkk
      rcases g3 c0 hk with ⟨q1, q2⟩ | ⟨q1, q2⟩
      · obtain ⟨e1, o1⟩ := h2 111 c0 q1
        obtain ⟨e2, n2⟩ := keep e1
        rw [q2]
        exact ⟨e2, (ho _ n2).trans o1⟩
      · rw [q2, q1, ← h5]
        refine ⟨by rw [List.getElem?_append_right (Nat.le_refl _), Nat.sub_self]; rfl, ?_⟩
        rw [h5]
        exact if_pos rfl
    · rw [g2 k hkk] at hk
      rw [gD k hkk]
      obtain ⟨e1, o1⟩ := h2 k c0 hk
      obtain ⟨e2, n2⟩ := keep e1
      exact ⟨e2, (ho _ n2).trans o1⟩
  · intro k hk
    rw [gH] at hk
    rw [gs]
    obtain ⟨e1, o1⟩ := h3 k hk
    obtain ⟨e2, n2⟩ := keep e1
    exact ⟨e2, (ho _ n2).trans o1⟩
  · intro j hj
    obtain ⟨e1, o1⟩ := h4 j hj
    have hm : ∃ c0, (mC s)[j]? = some c0 := ⟨(mC s)[j]'(by rw [mC_len]; exact hj), List.getElem?_eq_getElem _⟩
    obtain ⟨c0, hc0⟩ := hm
    rw [hc0] at e1
    obtain ⟨e2, n2⟩ := keep e1
    rw [hc0]
    exact ⟨e2, (ho _ n2).trans o1⟩
  · rw [List.length_append, gN, ← h5]
    rfl
  · rw [zz_sl_app, gQ, h6]
  · rw [gN]
    exact hr
theorem kR.x (hR : kR h t s) {c : zz_C} (hc : zz_sz zt_nf c = 6) (e : kN t + 1 < zz_out) : kR (h ++ [c]) (jX t 6) s :=
  hR.app (fun _ => rfl) (fun _ _ => rfl) (fun _ q => Or.inl ⟨q, rfl⟩) (fun _ _ => rfl) rfl (fun _ => rfl) rfl (by rw [hc]; rfl) e
theorem kVo_jNI {z n k : Nat} {g : Nat → Int32} : kVo (jNI t z n g) k = kVo t k := by
  unfold kVo
  split <;> rfl
theorem kVo_jNL {n k : Nat} {g : Nat → Int64} : kVo (jNL t n g) k = kVo t k := by
  unfold kVo
  split <;> rfl
theorem kVaS_D {k j : Nat} (hk : 111 < k) (eA : kA t' k = kA t k) (eD : ∀ q, q ≠ 111 → kD t' q = kD t q) : kVaS t' k j = kVaS t k j := by
  have e : (fun i => if i < 8 then some (kD t' (k + 1 + i)) else none) = (fun i => if i < 8 then some (kD t (k + 1 + i)) else none) := by
    funext i
    rw [eD _ (by omega)]
  unfold kVaS kint
  rw [e, eA]
theorem kVs_D {k : Nat} (eI : kI t' = kI t) (eD : ∀ q, q ≠ 111 → kD t' q = kD t q) : kVs t' k = kVs t k := by
  unfold kVs
  rw [eI, eD _ (by omega), eD _ (by omega)]
theorem kVa_jNI {z n k : Nat} {g : Nat → Int32} (hk : k ≠ 111) : kVa (jNI t z n g) k = kVa t k := by
  have eA : kA (jNI t z n g) k = kA t k := if_neg hk
  unfold kVa
  by_cases h1 : k < 2000000
  · rw [if_pos h1, if_pos h1]
    unfold kVa0
    split <;> first | rfl | (exfalso; omega) | (unfold kint; rw [eA]; rfl) | (unfold kint; rw [eA]; done)
  · rw [if_neg h1, if_neg h1, kVaS_D (t' := jNI t z n g) (by omega) eA (fun q hq => if_neg hq)]
    rfl
theorem kVa_jNL {n k : Nat} {g : Nat → Int64} (hk : k ≠ 111) : kVa (jNL t n g) k = kVa t k := by
  have eB : kB (jNL t n g) k = kB t k := if_neg hk
  unfold kVa
  by_cases h1 : k < 2000000
  · rw [if_pos h1, if_pos h1]
    unfold kVa0
    split <;> first | rfl | (exfalso; omega) | (unfold klng; rw [eB]; rfl) | (unfold klng; rw [eB]; done)
  · rw [if_neg h1, if_neg h1, kVaS_D (t := t) (t' := jNL t n g) (k := k) (by omega) rfl (fun q hq => if_neg hq)]
    rfl
theorem kR.nI (hR : kR h t s) {z n ty : Nat} {g : Nat → Int32} (hz : (z = 1 ∧ ty = 0) ∨ (z = 3 ∧ ty = 2)) (e : kN t + 1 < zz_out) : kR (h ++ [.inl (ty, n, .inl g)]) (jNI t z n g) s := by
  refine hR.app (fun _ => kVo_jNI) (fun _ q => kVa_jNI q) (fun c' q => Or.inr ⟨?_, rfl⟩) (fun _ q => if_neg q) rfl (fun _ => kVs_D rfl (fun _ q => if_neg q)) rfl rfl e
  rcases hz with ⟨rfl, rfl⟩ | ⟨rfl, rfl⟩
  · exact (Option.some.inj q).symm
  · exact (Option.some.inj q).symm
theorem kR.nL (hR : kR h t s) {n : Nat} {g : Nat → Int64} (e : kN t + 1 < zz_out) : kR (h ++ [.inl (1, n, .inr (.inl g))]) (jNL t n g) s := by
  refine hR.app (fun _ => kVo_jNL) (fun _ q => kVa_jNL q) (fun c' q => Or.inr ⟨?_, rfl⟩) (fun _ q => if_neg q) rfl (fun _ => kVs_D rfl (fun _ q => if_neg q)) rfl rfl e
  exact (Option.some.inj q).symm
theorem kR.na (hR : kR h t s) {n : Int32} (e : ¬ n < 0 ∧ n.toNatClampNeg ≤ 1000000 ∧ kN t + 1 < zz_out) : ∃ h', hna h .int n = some h' ∧ h.length = kN t ∧ kR h' (jNI t 1 n.toNatClampNeg (fun _ => 0)) s := by
  refine ⟨h ++ [.inl (0, n.toNatClampNeg, .inl fun _ => 0)], ?_, hR.len, hR.nI (Or.inl ⟨rfl, rfl⟩) e.2.2⟩
  unfold hna zz_newa
  dsimp only [zz_at4]
  rw [if_pos ⟨rfl, e.1, e.2.1, hR.room e.2.2⟩]
end KS
