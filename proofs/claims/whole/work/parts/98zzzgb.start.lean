theorem zt_arr {args : Array Value} {s : State} {ty : FieldType} (h : (Cond.arrayClass ty).before args s = true) : ∃ cA : ClassId, s.vm.findClass ("[" ++ ty.toString) = some cA ∧ ArrOfT s cA ty := by
  obtain ⟨cA, kA, comp, hfind, hk, hkind⟩ := Cond.arrayClass_spec h
  exact ⟨cA, hfind, fun n z => ⟨fun k h => (by cases h), kA, hk, comp, hkind⟩⟩
theorem zt_in {w : Cond} (h : w ∈ lw_tbl) (hg : goodWord w = true) : w ∈ zt_T := List.mem_filter.mpr ⟨h, hg⟩
theorem zt_arrO {s : State} {C : String} (h : va_Nw (.arrayOver (.object C)) s) : ∃ cA : ClassId, ArrOfT s cA (.object C) ∧ va_RA s cA (.object C) := by
  obtain ⟨comp, c, k, h1, h2, h3, h4, h5⟩ := Cond.arrayOver_spec h
  exact ⟨c, fun n z => ⟨fun k h => (by cases h), k, h3, comp, h4⟩, k, comp, h3, h4, h1, h5⟩
theorem zt_arrA {s : State} {ty : FieldType} (h : va_Nw (.arrayOver (.array ty)) s) : ∃ cA : ClassId, ArrOfT s cA (.array ty) ∧ va_RA s cA (.array ty) := by
  obtain ⟨comp, c, k, h1, h2, h3, h4, h5⟩ := arrayOverA_spec h
  exact ⟨c, fun n z => ⟨fun k h => (by cases h), k, h3, comp, h4⟩, h5⟩
/-- the end of the machine in little is the law's end -/
theorem zt_end {p : Program} {l : Launch} {e : Env} {s : State} {m : MethodId} {args : Array Value} {below : List Frame} {meth : Method} {c : Code} {H : Heap} {locs : List Loc} {cells slots mc ms : Nat} {g : JFrame} {D : va_G} {cl : List vw_C} {O : Nat → Nat} {dA : Nat → ClassId} {hf : zz_H} (hmc : mc ≤ 601024) (hms : ms ≤ 7293034)
    (hw : W p l e room_1 s m args below meth c H locs cells slots (MQ below (zz_Qc D cl s.heap.size O dA (some (.int 1)) hf) args s mc ms (fun q => s.heap.size ≤ q)) g) : W p l e room_1 s m args below meth c H locs cells slots (lw_Z below args s) g := by
  intro T hT X
  obtain ⟨t, a1, o, b1, b2, ⟨rfl, -⟩, L, ⟨c1, c2, c3⟩, hL⟩ := hw T hT X
  exact ⟨t, a1, _, b1, b2, rfl, c1, c2, c3.weaken (fun y hy hlt => absurd hlt (Nat.not_lt.mpr (hL y hy))) hmc hms⟩
set_option maxRecDepth 100000 in
theorem zt_i1 : ∀ w ∈ u_ws RX1 TX1 2, w ∈ zt_T := zz_places goodWord (ps := [481, 483]) (by rfl) (by decide +kernel)
set_option maxRecDepth 100000 in
theorem zt_n1 : Cond.instantiable RX1 2 ∈ zt_T := zz_places goodWord (ws := [Cond.instantiable RX1 2]) (ps := [474]) (by rfl) (by decide +kernel) _ List.mem_cons_self
set_option maxRecDepth 100000 in
theorem zt_i2 : ∀ w ∈ u_ws RX2 TX2 4, w ∈ zt_T := zz_places goodWord (ps := [394, 396, 398, 400]) (by rfl) (by decide +kernel)
set_option maxRecDepth 100000 in
theorem zt_n2 : Cond.instantiable RX2 4 ∈ zt_T := zz_places goodWord (ws := [Cond.instantiable RX2 4]) (ps := [385]) (by rfl) (by decide +kernel) _ List.mem_cons_self
set_option maxRecDepth 100000 in
theorem zt_i3 : ∀ w ∈ u_ws RX3 TX3 19, w ∈ zt_T := zz_places goodWord (ps := [505, 507, 509, 511, 513, 515, 517, 519, 521, 523, 525, 527, 529, 531, 533, 535, 537, 539, 541]) (by rfl) (by decide +kernel)
set_option maxRecDepth 100000 in
theorem zt_n3 : Cond.instantiable RX3 19 ∈ zt_T := zz_places goodWord (ws := [Cond.instantiable RX3 19]) (ps := [454]) (by rfl) (by decide +kernel) _ List.mem_cons_self
set_option maxRecDepth 100000 in
theorem zt_i4 : ∀ w ∈ u_ws RX4 TX4 3, w ∈ zt_T := zz_places goodWord (ps := [412, 414, 416]) (by rfl) (by decide +kernel)
set_option maxRecDepth 100000 in
theorem zt_n4 : Cond.instantiable RX4 3 ∈ zt_T := zz_places goodWord (ws := [Cond.instantiable RX4 3]) (ps := [404]) (by rfl) (by decide +kernel) _ List.mem_cons_self
set_option maxRecDepth 100000 in
theorem zt_i5 : ∀ w ∈ u_ws RX5 TX5 12, w ∈ zt_T := zz_places goodWord (ps := [303, 305, 307, 309, 311, 313, 315, 317, 319, 321, 323, 325]) (by rfl) (by decide +kernel)
set_option maxRecDepth 100000 in
theorem zt_n5 : Cond.instantiable RX5 12 ∈ zt_T := zz_places goodWord (ws := [Cond.instantiable RX5 12]) (ps := [252]) (by rfl) (by decide +kernel) _ List.mem_cons_self
set_option maxRecDepth 100000 in
theorem zt_i6 : ∀ w ∈ u_ws RX6 TX6 10, w ∈ zt_T := zz_places goodWord (ps := [344, 346, 348, 350, 352, 354, 356, 358, 360, 362]) (by rfl) (by decide +kernel)
set_option maxRecDepth 100000 in
theorem zt_n6 : Cond.instantiable RX6 10 ∈ zt_T := zz_places goodWord (ws := [Cond.instantiable RX6 10]) (ps := [329]) (by rfl) (by decide +kernel) _ List.mem_cons_self
set_option maxRecDepth 100000 in
theorem zt_i7 : ∀ w ∈ u_ws RX7 TX7 3, w ∈ zt_T := zz_places goodWord (ps := [376, 378, 380]) (by rfl) (by decide +kernel)
set_option maxRecDepth 100000 in
theorem zt_n7 : Cond.instantiable RX7 3 ∈ zt_T := zz_places goodWord (ws := [Cond.instantiable RX7 3]) (ps := [366]) (by rfl) (by decide +kernel) _ List.mem_cons_self
set_option maxRecDepth 100000 in
theorem zt_i8 : ∀ w ∈ u_ws RX8 TX8 2, w ∈ zt_T := zz_places goodWord (ps := [467, 469]) (by rfl) (by decide +kernel)
set_option maxRecDepth 100000 in
theorem zt_n8 : Cond.instantiable RX8 2 ∈ zt_T := zz_places goodWord (ws := [Cond.instantiable RX8 2]) (ps := [460]) (by rfl) (by decide +kernel) _ List.mem_cons_self
set_option maxRecDepth 100000 in
theorem zt_i9 : ∀ w ∈ u_ws RX9 TX9 9, w ∈ zt_T := zz_places goodWord (ps := [434, 436, 438, 440, 442, 444, 446, 448, 450]) (by rfl) (by decide +kernel)
set_option maxRecDepth 100000 in
theorem zt_n9 : Cond.instantiable RX9 9 ∈ zt_T := zz_places goodWord (ws := [Cond.instantiable RX9 9]) (ps := [420]) (by rfl) (by decide +kernel) _ List.mem_cons_self
set_option maxRecDepth 100000 in
theorem zt_i10 : ∀ w ∈ u_ws RX10 TX10 8, w ∈ zt_T := zz_places goodWord (ps := [271, 273, 275, 277, 279, 281, 283, 285]) (by rfl) (by decide +kernel)
set_option maxRecDepth 100000 in
theorem zt_n10 : Cond.instantiable RX10 8 ∈ zt_T := zz_places goodWord (ws := [Cond.instantiable RX10 8]) (ps := [258]) (by rfl) (by decide +kernel) _ List.mem_cons_self
set_option maxRecDepth 100000 in
theorem zt_i12 : ∀ w ∈ u_ws RX12 TX12 14, w ∈ zt_T := zz_places goodWord (ps := [558, 560, 562, 564, 566, 568, 570, 572, 574, 576, 578, 580, 582, 584]) (by rfl) (by decide +kernel)
set_option maxRecDepth 100000 in
theorem zt_n12 : Cond.instantiable RX12 14 ∈ zt_T := zz_places goodWord (ws := [Cond.instantiable RX12 14]) (ps := [244]) (by rfl) (by decide +kernel) _ List.mem_cons_self
set_option maxRecDepth 100000 in
theorem zt_i13 : ∀ w ∈ u_ws RX13 TX13 90, w ∈ zt_T := zz_places goodWord (ps := [1882, 1884, 1886, 1888, 1890, 1892, 1894, 1896, 1898, 1900, 1902, 1904, 1906, 1908, 1910, 1912, 1914, 1916, 1918, 1920, 1922, 1924, 1926, 1928, 1930, 1932, 1934, 1936, 1938, 1940, 1942, 1944, 1946, 1948, 1950, 1952, 1954, 1956, 1958, 1960, 1962, 1964, 1966, 1968, 1970, 1972, 1974, 1976, 1978, 1980, 1982, 1984, 1986, 1988, 1990, 1992, 1994, 1996, 1998, 2000, 2002, 2004, 2006, 2008, 2010, 2012, 2014, 2016, 2018, 2020, 2022, 2024, 2026, 2028, 2030, 2032, 2034, 2036, 2038, 2040, 2042, 2044, 2046, 2048, 2050, 2052, 2054, 2056, 2058, 2060]) (by rfl) (by decide +kernel)
set_option maxRecDepth 100000 in
theorem zt_n13 : Cond.instantiable RX13 90 ∈ zt_T := zz_places goodWord (ws := [Cond.instantiable RX13 90]) (ps := [1745]) (by rfl) (by decide +kernel) _ List.mem_cons_self
theorem zt_G : zz_G zt_cl zt_tf zt_T := by
  intro ci q hq
  match ci, hq with
  | 0, hq => cases hq; exact ⟨zt_i1, tyX1_ok, nmX1⟩
  | 1, hq => cases hq; exact ⟨zt_i1, tyX1_ok, nmX1⟩
  | 2, hq => cases hq; exact ⟨zt_i2, tyX2_ok, nmX2⟩
  | 3, hq => cases hq; exact ⟨zt_i3, tyX3_ok, nmX3⟩
  | 4, hq => cases hq; exact ⟨zt_i4, tyX4_ok, nmX4⟩
  | 5, hq => cases hq; exact ⟨zt_i5, tyX5_ok, nmX5⟩
  | 6, hq => cases hq; exact ⟨zt_i6, tyX6_ok, nmX6⟩
  | 7, hq => cases hq; exact ⟨zt_i7, tyX7_ok, nmX7⟩
  | 8, hq => cases hq; exact ⟨zt_i8, tyX8_ok, nmX8⟩
  | 9, hq => cases hq; exact ⟨zt_i9, tyX9_ok, nmX9⟩
  | 10, hq => cases hq; exact ⟨zt_i10, tyX10_ok, nmX10⟩
  | 11, hq => cases hq; exact ⟨zt_i1, tyX1_ok, nmX1⟩
  | 12, hq => cases hq; exact ⟨zt_i12, tyX12_ok, nmX12⟩
  | 13, hq => cases hq; exact ⟨zt_i13, tyX13_ok, nmX13⟩
  | 14, hq => cases hq; exact ⟨(fun w hw => by cases hw), fun k hk => absurd hk (Nat.not_lt_zero _), fun a ha => absurd ha (Nat.not_lt_zero _)⟩
  | ci + 15, hq => simp [zt_cl] at hq
theorem zt_St : zz_St zt_hh zp_P zt_cl zt_tf zt_fd zt_nf zt_T zt_N := ⟨zt_G, fun w h => (List.mem_filter.mp h).2, fun w h => (List.mem_filter.mp h).2, ⟨_, rfl, rfl⟩, ⟨_, rfl, rfl, rfl, rfl⟩, fun j M h => zo_all M (List.mem_of_getElem? h)⟩
theorem zt_a0 : Cond.arrayClass .int ∈ zt_T := zz_places goodWord (ws := [Cond.arrayClass .int]) (ps := [289]) (by rfl) (by decide +kernel) _ List.mem_cons_self
theorem zt_a1 : Cond.arrayClass .long ∈ zt_T := zz_places goodWord (ws := [Cond.arrayClass .long]) (ps := [290]) (by rfl) (by decide +kernel) _ List.mem_cons_self
theorem zt_a2 : Cond.arrayClass .byte ∈ zt_T := zz_places goodWord (ws := [Cond.arrayClass .byte]) (ps := [288]) (by rfl) (by decide +kernel) _ List.mem_cons_self
theorem zt_a3 : Cond.arrayClass .boolean ∈ zt_T := zz_places goodWord (ws := [Cond.arrayClass .boolean]) (ps := [472]) (by rfl) (by decide +kernel) _ List.mem_cons_self
theorem zt_a4 : Cond.arrayOver (.object "TallySlate$Shelves") ∈ zt_N := zz_places zz_isN (ws := [Cond.arrayOver (.object "TallySlate$Shelves")]) (ps := [383]) (by rfl) (by decide +kernel) _ List.mem_cons_self
theorem zt_a5 : Cond.arrayOver (.array .int) ∈ zt_N := zz_places zz_isN (ws := [Cond.arrayOver (.array .int)]) (ps := [372]) (by rfl) (by decide +kernel) _ List.mem_cons_self
set_option maxRecDepth 100000 in
theorem zt_n14 : Cond.instantiable zz_ise 6 ∈ zt_T := zz_places goodWord (ws := [Cond.instantiable zz_ise 6]) (ps := [803]) (by rfl) (by decide +kernel) _ List.mem_cons_self
set_option maxHeartbeats 4000000 in
set_option maxRecDepth 100000 in
theorem zt_start {p : Program} {e : Env} {s : State} {m : MethodId} {below : List Frame} {meth : Method} {c : Code} (l : Launch) {b L : Nat} {xs : Nat → Int32} (hlt : l.stackTraces = false) (hpt : c.exceptionTable.toList = []) (C0 : lw_At p s m meth c b L xs) (hrun : ∃ (n : Nat) (hf : zz_H), zz_run zp_P zt_tf zt_fd (zt_X L xs) n 1000 zm_law 0 [(0, .ref zz_out)] [] [] = some (.inl (some (.int 1)), hf) ∧ hf.length ≤ 600000 ∧ zz_sl zt_nf hf ≤ 7290000) : W p l e room_1 s m #[Value.ref b] below meth c s.heap [] 0 0 (lw_Z below #[Value.ref b] s) (entryFrame m ([Value.ref b] : List Value).toArray 4) := by
  obtain ⟨hx, hb, hr, hml, hown, hts, hX, hbl, hlocks, hgv⟩ := C0
  obtain ⟨n, hf, hrun, hf1, hf2⟩ := hrun
  have htT : ∀ w ∈ zt_T, w.before #[Value.ref b] s = true := fun w h => hts w (List.mem_filter.mp h).1
  have htN : ∀ w ∈ zt_N, va_Nw w s := fun w h => by
    have h1 := hts w (List.mem_filter.mp h).1
    have h2 : zz_isN w = true := (List.mem_filter.mp h).2
    cases w
    case methodLinkNest => exact va_Nw.of rfl h1
    case fieldLinkNest => exact va_Nw.of rfl h1
    case castable => exact va_Nw.of rfl h1
    case declares => exact va_Nw.of rfl h1
    case arrayOver t => exact h1
    all_goals (simp [zz_isN] at h2)
  obtain ⟨k1, j1, hk1⟩ := u_known (C := RX1) (T := TX1) (N := 2) (n := 2) htT zt_i1 (htT _ zt_n1)
  obtain ⟨k2, j2, hk2⟩ := u_known (C := RX2) (T := TX2) (N := 4) (n := 4) htT zt_i2 (htT _ zt_n2)
  obtain ⟨k3, j3, hk3⟩ := u_known (C := RX3) (T := TX3) (N := 19) (n := 19) htT zt_i3 (htT _ zt_n3)
  obtain ⟨k4, j4, hk4⟩ := u_known (C := RX4) (T := TX4) (N := 3) (n := 3) htT zt_i4 (htT _ zt_n4)
  obtain ⟨k5, j5, hk5⟩ := u_known (C := RX5) (T := TX5) (N := 12) (n := 12) htT zt_i5 (htT _ zt_n5)
  obtain ⟨k6, j6, hk6⟩ := u_known (C := RX6) (T := TX6) (N := 10) (n := 10) htT zt_i6 (htT _ zt_n6)
  obtain ⟨k7, j7, hk7⟩ := u_known (C := RX7) (T := TX7) (N := 3) (n := 3) htT zt_i7 (htT _ zt_n7)
  obtain ⟨k8, j8, hk8⟩ := u_known (C := RX8) (T := TX8) (N := 2) (n := 2) htT zt_i8 (htT _ zt_n8)
  obtain ⟨k9, j9, hk9⟩ := u_known (C := RX9) (T := TX9) (N := 9) (n := 9) htT zt_i9 (htT _ zt_n9)
  obtain ⟨k10, j10, hk10⟩ := u_known (C := RX10) (T := TX10) (N := 8) (n := 8) htT zt_i10 (htT _ zt_n10)
  obtain ⟨k12, j12, hk12⟩ := u_known (C := RX12) (T := TX12) (N := 14) (n := 14) htT zt_i12 (htT _ zt_n12)
  obtain ⟨k13, j13, hk13⟩ := u_known (C := RX13) (T := TX13) (N := 90) (n := 90) htT zt_i13 (htT _ zt_n13)
  obtain ⟨k14, j14, hk14⟩ := u_known (C := zz_ise) (T := TX1) (N := 0) (n := 6) htT (fun w hw => by cases hw) (htT _ zt_n14)
  obtain ⟨dC, dI, hKc⟩ : ∃ (dC : Nat → ClassId) (dI : Nat → Nat → Nat), ∀ (k : Nat) (q : vw_C), zt_cl[k]? = some q → u_Kn s q.1 q.2.1 q.2.2 (dC k) (dI k) := by
    refine ⟨fun k => match k with
      | 0 => k1
      | 1 => k1
      | 2 => k2
      | 3 => k3
      | 4 => k4
      | 5 => k5
      | 6 => k6
      | 7 => k7
      | 8 => k8
      | 9 => k9
      | 10 => k10
      | 11 => k1
      | 12 => k12
      | 13 => k13
      | 14 => k14
      | _ => k1, fun k => match k with
      | 0 => j1
      | 1 => j1
      | 2 => j2
      | 3 => j3
      | 4 => j4
      | 5 => j5
      | 6 => j6
      | 7 => j7
      | 8 => j8
      | 9 => j9
      | 10 => j10
      | 11 => j1
      | 12 => j12
      | 13 => j13
      | 14 => j14
      | _ => j1, ?_⟩
    intro k q hq
    match k, hq with
    | 0, hq => cases hq; exact hk1
    | 1, hq => cases hq; exact hk1
    | 2, hq => cases hq; exact hk2
    | 3, hq => cases hq; exact hk3
    | 4, hq => cases hq; exact hk4
    | 5, hq => cases hq; exact hk5
    | 6, hq => cases hq; exact hk6
    | 7, hq => cases hq; exact hk7
    | 8, hq => cases hq; exact hk8
    | 9, hq => cases hq; exact hk9
    | 10, hq => cases hq; exact hk10
    | 11, hq => cases hq; exact hk1
    | 12, hq => cases hq; exact hk12
    | 13, hq => cases hq; exact hk13
    | 14, hq => cases hq; exact hk14
    | k + 15, hq => simp [zt_cl] at hq
  obtain ⟨a0, fa0, ga0⟩ := zt_arr (htT _ zt_a0)
  obtain ⟨a1, fa1, ga1⟩ := zt_arr (htT _ zt_a1)
  obtain ⟨a2, fa2, ga2⟩ := zt_arr (htT _ zt_a2)
  obtain ⟨a3, fa3, ga3⟩ := zt_arr (htT _ zt_a3)
  obtain ⟨a4, ga4, fa4⟩ := zt_arrO (htN _ zt_a4)
  obtain ⟨a5, ga5, fa5⟩ := zt_arrA (htN _ zt_a5)
  have hK : va_K (dC, dI) zt_cl (zz_tys (fun t => match t with
      | 0 => a0
      | 1 => a1
      | 2 => a2
      | 3 => a3
      | 4 => a4
      | _ => a5)) s := ⟨hKc, fun k q hq => by
    match k, hq with
    | 0, hq => cases hq; exact ⟨ga0, fa0⟩
    | 1, hq => cases hq; exact ⟨ga1, fa1⟩
    | 2, hq => cases hq; exact ⟨ga2, fa2⟩
    | 3, hq => cases hq; exact ⟨ga3, fa3⟩
    | 4, hq => cases hq; exact ⟨ga4, fa4⟩
    | 5, hq => cases hq; exact ⟨ga5, fa5⟩
    | k + 6, hq => simp [zz_tys] at hq⟩
  generalize hdA : (fun t : Nat => match t with
      | 0 => a0
      | 1 => a1
      | 2 => a2
      | 3 => a3
      | 4 => a4
      | _ => a5) = dA at hK
  obtain ⟨O, hO0, hXX, hYY⟩ := zy_world hts (zy_R hgv) hX hbl
  have hR : zz_R (dC, dI) zt_cl s.heap.size O dA s.heap [] [] s.heap := ⟨fun k q h => by simp [zz_w] at h, va_S.rf, rfl, Nat.zero_le _, Nat.le_refl _⟩
  have hl := lv_entry ([.ref b]) (n := 4) (Nat.le_of_ble_eq_true rfl)
  rw [lg_entry_eq]
  generalize (lg_sl ([.ref b]) ++ List.replicate (4 - (lg_sl ([.ref b])).length) Slot.unset).toArray = ls at hl ⊢
  have hl : lv_has ls 4 [(0, .ref b)] := hl
  have hl : lv_has ls 4 (zz_l s.heap.size O [(0, .ref zz_out)]) := by
    have : zz_l s.heap.size O [(0, .ref zz_out)] = [(0, .ref b)] := by
      show [(0, Value.ref (zz_a s.heap.size O zz_out))] = _
      unfold zz_a
      rw [if_neg (by omega), Nat.sub_self, hO0]
    rw [this]
    exact hl
  have := zz_sound (l := l) (B := s.heap.size) (O := O) (D := (dC, dI)) (dA := dA) (X := zt_X L xs) hlt zt_St n 1000 zm_law 0 [(0, .ref zz_out)] [] [] hf (.inl (some (.int 1))) hrun zw_law p e room_1 s m #[Value.ref b] below meth c s.heap [] ls 0 0 hx hb hr hlocks hml hown (fun h => absurd h (by decide)) htT hK htN hXX hYY (hpt.trans rfl) hR hl (Nat.zero_le _) (Nat.zero_le _) (by show hf.length - 0 ≤ 601024; omega) (by show zz_sl zt_nf hf - 0 ≤ 7293034; omega) (by decide) (by decide)
  exact zt_end (by omega) (by omega) this
/-- WHAT IS LEFT: a relation of both states that holds at the start, that each of the 19 calls keeps, both answering alike, and that keeps the room -/
def lw_Pure : Prop := ∃ (N : Nat) (Inv : Nat → cS → mS → Prop), Inv 512 t0 s0 ∧ (∀ (L : Nat) (xs : Nat → Int32) (n : Nat) (t : cS) (s : mS) (op a1 a2 a3 a4 a5 : Int32), 0 ≤ op.toInt → op.toInt < 32 → Inv (n + 1) t s → ∃ t' s', lwC N (zt_X L xs) op.toInt.toNat a1 a2 a3 a4 a5 t s t' s' ∧ Inv n t' s') ∧ ∀ n t s, Inv n t s → kN t ≤ 600000 ∧ kQ t ≤ 7290000
theorem lw_run (hp : lw_Pure) {L : Nat} {xs : Nat → Int32} (hL : L ≤ 3072) : ∃ (n : Nat) (hf : zz_H), zz_run zp_P zt_tf zt_fd (zt_X L xs) n 1000 zm_law 0 [(0, .ref zz_out)] [] [] = some (.inl (some (.int 1)), hf) ∧ hf.length ≤ 600000 ∧ zz_sl zt_nf hf ≤ 7290000 := by
  obtain ⟨N, Inv, h0, hstep, hroom⟩ := hp
  have hJ := lw_loop (X := zt_X L xs) (d := 600) (N := N) (L := L) (xs := xs) rfl hL Inv (fun n t s op a1 a2 a3 a4 a5 => hstep L xs n t s op a1 a2 a3 a4 a5) 512 0 t0 s0 zv_h kR_0 h0 (by omega) (by omega)
  have hE : zz_E zp_P zt_tf zt_fd (zt_X L xs) 1000 zm_law 18 zv_L [] zv_h (fun v h => v = some (.int 1) ∧ ∃ n t s, kR h t s ∧ Inv n t s) := by
    refine zz_E.ofG ?_
    refine zz_J.mono (zz_J.weak hJ rfl ⟨rfl, rfl, rfl, rfl, trivial⟩) ?_
    intro o h ho
    obtain ⟨rfl, n, t, s, hR, hI⟩ := ho
    exact ⟨rfl, n, t, s, hR, hI⟩
  obtain ⟨n, v, hf, hr, rfl, n', t, s, hR, hI⟩ := zv_law hE
  refine ⟨n, hf, hr, ?_, ?_⟩
  · rw [hR.len]
    exact (hroom n' t s hI).1
  · obtain ⟨own, h1, h2, h3, h4, h5, h6, h7⟩ := hR
    rw [h6]
    exact (hroom n' t s hI).2
theorem whole_start (hp : lw_Pure) {p : Program} {e : Env} {s : State} {m : MethodId} {below : List Frame} {meth : Method} {c : Code} (l : Launch) {b L : Nat} {xs : Nat → Int32} (hlt : l.stackTraces = false) (hpt : c.exceptionTable.toList = []) (hL : L ≤ 3072) (C0 : lw_At p s m meth c b L xs) : W p l e room_1 s m #[Value.ref b] below meth c s.heap [] 0 0 (lw_Z below #[Value.ref b] s) (entryFrame m ([Value.ref b] : List Value).toArray 4) :=
  zt_start l hlt hpt C0 (lw_run hp hL)
