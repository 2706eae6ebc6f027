/-! ===== an int[] put into an int[][] ===== -/
def zz_aast2 (ln pc : Nat) (lv : List (Nat × Value)) (st : List Value) (h : zz_H) : Option (zz_F × zz_H) := match st with
  | .ref v :: .int i :: .ref a :: r => match zz_at h a, zz_at h v with
    | some (.inl (5, n, .inr (.inr (.inr (.inr f))))), some (.inl (0, _, .inl _)) => if ln = 1 ∧ ¬ (i < 0 ∨ n ≤ i.toNatClampNeg) then some ((pc + 1, lv, r), h.set a (.inl (5, n, .inr (.inr (.inr (.inr (va_up f i.toNatClampNeg (some v)))))))) else none
    | _, _ => none
  | _ => none
section ZA2
variable {p : Program} {l : Launch} {e : Env} {R : Room} {s : State} {m : MethodId} {args : Array Value} {below : List Frame} {meth : Method} {c : Code} {H : Heap} {locs : List Loc} {cells slots : Nat} {Q : State → Prop}
variable {cc : ByteArray} {B : Nat} {O : Nat → Nat} {D : va_G} {cl : List vw_C} {dA : Nat → ClassId} {H0 : Heap} {h h' : zz_H}
variable {ln pc pc' : Nat} {lv lv' : List (Nat × Value)} {st st' : List Value} {ls : Array Slot}
theorem zz_aast2_ok (hx : p.tables.exec = Jvm.exec) (hb : c.code = cc) (hK : va_K D cl (zz_tys dA) s) (hR : zz_R D cl B O dA H0 locs h H) (hov : va_Nw (.arrayOver (.array .int)) s)
    (hd : decode cc pc = .ok (.aastore, ln)) (hs : zz_aast2 ln pc lv st h = some ((pc', lv', st'), h')) (kk : ∀ (H1 : Heap) (locs1 : List Loc), zz_R D cl B O dA H0 locs1 h' H1 → W p l e R s m args below meth c H1 locs1 cells slots Q (F0 m pc' ls (zz_s B O st'))) : W p l e R s m args below meth c H locs cells slots Q (F0 m pc ls (zz_s B O st)) ∧ lv' = lv := by
  unfold zz_aast2 at hs
  split at hs
  · rename_i v i a r
    split at hs
    · rename_i n f n2 g ha hv
      split at hs
      · rename_i e0
        obtain ⟨e0, e2⟩ := e0
        subst e0
        cases hs
        obtain ⟨ha1, ha2⟩ := zz_at_ok ha
        obtain ⟨hv1, hv2⟩ := zz_at_ok hv
        refine ⟨?_, rfl⟩
        show W p l e R s m args below meth c H locs cells slots Q (F0 m pc ls (.ref (zz_a B O v) :: .int i :: .ref (zz_a B O a) :: zz_s B O st'))
        rw [zz_a_in ha1, zz_a_in hv1]
        obtain ⟨comp, c5, k5, h1, h2, h3, h4, h5⟩ := arrayOverA_spec hov
        have hc5 : c5 = dA 5 := Option.some.inj (h5.symm.trans (hK.2 5 _ rfl).2)
        have hc0 : comp = dA 0 := Option.some.inj (h1.symm.trans (hK.2 0 _ rfl).2)
        subst hc5
        subst hc0
        obtain ⟨k0, hk0, -⟩ := Vm.findClass_spec h1
        refine W.aast hx hb (hR.1 a _ (zz_w_at ha2)) (fun q h => by cases h) (fun h => by cases h) h3 h4 rfl hk0 ⟨fun z => e2 (Or.inl z), by show _ < (arrV _ _ _).slots.size; rw [arrV_size]; exact Nat.not_le.mp fun z => e2 (Or.inr z)⟩ (hR.1 v _ (zz_w_at hv2)) (fun q h => by cases h) hk0 (va_asg _ _) rfl rfl hd fun H1 e z oq => kk H1 _ (hR.put ha2 ?_ z oq)
        refine zz_arrV_put (g2 := fun j => va_rf ((va_up f i.toNatClampNeg (some v) j).map (zz_a B O))) e (fun j => ?_)
        by_cases hq : j = i.toNatClampNeg
        · subst hq
          simp [updV, va_up, va_rf, zz_a_in hv1]
        · simp [updV, va_up, hq]
      · cases hs
    · cases hs
  · cases hs
end ZA2
