/-! THE START -/
theorem lx_P {D : va_G} {cl : List vw_C} {w1 w2 : va_W} {H : Heap} (h : va_P D cl (w1 ++ w2) H) : va_P D cl w1 H ∧ va_P D cl w2 H := by
  refine ⟨fun k q hk => ?_, fun k q hk => ?_⟩
  · have hl : k < w1.length := (List.getElem?_eq_some_iff.mp hk).1
    exact h k q (by rw [List.getElem?_append_left hl]; exact hk)
  · exact h (w1.length + k) q (by rw [List.getElem?_append_right (Nat.le_add_right _ _), Nat.add_sub_cancel_left]; exact hk)
theorem lx_D {A : Nat → Prop} {w1 w2 : va_W} (h : va_D A (w1 ++ w2)) : va_D A w1 ∧ va_D A w2 ∧ ∀ (i j : Nat) (p q : Nat × va_E), w1[i]? = some p → w2[j]? = some q → p.1 ≠ q.1 := by
  have h1 : ∀ (k : Nat) (q : Nat × va_E), w1[k]? = some q → k < w1.length ∧ (w1 ++ w2)[k]? = some q := fun k q hk => by
    have hl : k < w1.length := (List.getElem?_eq_some_iff.mp hk).1
    exact ⟨hl, by rw [List.getElem?_append_left hl]; exact hk⟩
  have h2 : ∀ (k : Nat) (q : Nat × va_E), w2[k]? = some q → (w1 ++ w2)[w1.length + k]? = some q := fun k q hk => by
    rw [List.getElem?_append_right (Nat.le_add_right _ _), Nat.add_sub_cancel_left]
    exact hk
  refine ⟨⟨fun i j p q hi hj e => h.1 i j p q (h1 i p hi).2 (h1 j q hj).2 e, fun k q hk => h.2 k q (h1 k q hk).2⟩, ⟨fun i j p q hi hj e => ?_, fun k q hk => h.2 _ q (h2 k q hk)⟩, fun i j p q hi hj e => ?_⟩
  · have a := h.1 _ _ p q (h2 i p hi) (h2 j q hj) e
    omega
  · have a := h.1 _ _ p q (h1 i p hi).2 (h2 j q hj) e
    have b := (h1 i p hi).1
    omega
theorem wd_len (o : OO) (st : St) : (wd o st).length = o.2.1 := by
  unfold wd
  rw [List.length_map, List.length_range]
theorem wa_ho {o : OO} {st : St} {e : Nat × va_E} {n : Nat} (hn : o.2.1 = n) : (wd o st ++ [e])[n]? = some e := by
  subst hn
  rw [List.getElem?_append_right (by rw [wd_len]; exact Nat.le_refl _), wd_len, Nat.sub_self]
  rfl
theorem wa_hR {o : OO} {st : St} {e : Nat × va_E} {n : Nat} (hn : o.2.1 = n) : (List.range n).map (fun i => (wd o st ++ [e])[i]?) = (wd o st).map some := by
  subst hn
  apply List.ext_getElem?
  intro i
  rw [List.getElem?_map, List.getElem?_map]
  by_cases hi : i < o.2.1
  · rw [List.getElem?_range hi, wd_get st hi]
    show some ((wd o st ++ [e])[i]?) = some (some _)
    rw [List.getElem?_append_left (by rw [wd_len]; exact hi), wd_get st hi]
  · rw [wd_none st hi, List.getElem?_eq_none (by rw [List.length_range]; exact Nat.not_lt.mp hi)]
    rfl
theorem ka_p {U : State} {A : Array Value} {ty : FieldType} (h : (Cond.arrayClass ty).before A U = true) : ∃ c, ArrOfT U c ty ∧ U.vm.findClass ("[" ++ ty.toString) = some c := by
  obtain ⟨c, k, comp, h1, h2, h3⟩ := Cond.arrayClass_spec h
  exact ⟨c, fun n z => ⟨fun q hq => (by cases hq), k, h2, comp, h3⟩, h1⟩
theorem ka_o {U : State} {C : String} (h : va_AO C U) : ∃ c, ArrOfT U c (.object C) ∧ va_RA U c (.object C) := by
  obtain ⟨comp, c, k, h1, h2, h3, h4, h5⟩ := Cond.arrayOver_spec h
  exact ⟨c, fun n z => ⟨fun q hq => (by cases hq), k, h3, comp, h4⟩, k, comp, h3, h4, h1, h5⟩
theorem ka_a {U : State} {t : FieldType} (h : va_AOA t U) : ∃ c, ArrOfT U c (.array t) ∧ va_RA U c (.array t) := by
  obtain ⟨comp, c, k, h1, h2, h3, h4, h5⟩ := arrayOverA_spec h
  exact ⟨c, fun n z => ⟨fun q hq => (by cases hq), k, h3, comp, h4⟩, h5⟩
theorem aoa_of {t : FieldType} {A : Array Value} {U : State} (h : (Cond.arrayOver (.array t)).before A U = true) : va_AOA t U := over_moved (a := A) (a' := #[]) (Vm.Alike.refl _) h
theorem st_N {s : State} {A : Array Value} (hts : ∀ w ∈ lw_tbl, w.before A s = true) : nx s ∧ nI5 s := ⟨⟨va_Nw.of rfl (hts _ (List.mem_of_getElem? (i := 347) (by decide +kernel))), va_Nw.of rfl (hts _ (List.mem_of_getElem? (i := 375) (by decide +kernel)))⟩, ⟨va_Nw.of rfl (hts _ (List.mem_of_getElem? (i := 179) (by decide +kernel))), va_Nw.of rfl (hts _ (List.mem_of_getElem? (i := 197) (by decide +kernel))), va_Nw.of rfl (hts _ (List.mem_of_getElem? (i := 202) (by decide +kernel))), va_Nw.of rfl (hts _ (List.mem_of_getElem? (i := 87) (by decide +kernel))), va_Nw.of rfl (hts _ (List.mem_of_getElem? (i := 109) (by decide +kernel)))⟩, va_AO.of (hts _ (List.mem_of_getElem? (i := 84) (by decide +kernel))), va_AO.of (hts _ (List.mem_of_getElem? (i := 176) (by decide +kernel))), aoa_of (hts _ (List.mem_of_getElem? (i := 74) (by decide +kernel))), aoa_of (hts _ (List.mem_of_getElem? (i := 76) (by decide +kernel)))⟩
theorem st_K {s : State} {A : Array Value} (hg : ∀ w ∈ gtb, w.before A s = true) (h5 : nI5 s) : ∃ (D : va_G) (cy : Nat → ClassId), va_K D vwCl (tyK cy) s := by
  obtain ⟨c0, i0, k0⟩ := u_known (C := RX0) (T := TX0) (N := 3) (n := 3) hg uw_0 (hg _ nw_X5_33.2.1)
  obtain ⟨c1, i1, k1⟩ := u_known (C := RX1) (T := TX1) (N := 3) (n := 3) hg uw_1 (hg _ nw_X5_39.2.1)
  obtain ⟨c2, i2, k2⟩ := u_known (C := RX2) (T := TX2) (N := 8) (n := 8) hg uw_2 (hg _ nw_X3_9.2.1)
  obtain ⟨c3, i3, k3⟩ := u_known (C := RX3) (T := TX3) (N := 5) (n := 5) hg uw_3 (hg _ nw_X5_26.2.1)
  obtain ⟨c4, i4, k4⟩ := u_known (C := RX4) (T := TX4) (N := 3) (n := 3) hg uw_4 (hg _ nw_X3_17.2.1)
  obtain ⟨c5, i5, k5⟩ := u_known (C := RX5) (T := TX5) (N := 12) (n := 12) hg uw_5 (hg _ nw_L_7.2.1)
  obtain ⟨c6, i6, k6⟩ := u_known (C := RX6) (T := TX6) (N := 33) (n := 33) hg uw_6 (hg _ nw_L_10.2.1)
  obtain ⟨y0, a0, b0⟩ := ka_p (hg _ ac_int)
  obtain ⟨y1, a1, b1⟩ := ka_p (hg _ ac_byte)
  obtain ⟨y2, a2, b2⟩ := ka_p (hg _ ac_boolean)
  obtain ⟨y3, a3, b3⟩ := ka_o h5.2.1
  obtain ⟨y4, a4, b4⟩ := ka_o h5.2.2.1
  obtain ⟨y5, a5, b5⟩ := ka_a h5.2.2.2.1
  obtain ⟨y6, a6, b6⟩ := ka_a h5.2.2.2.2
  refine ⟨(fun k => [c0, c1, c2, c3, c4, c5, c6].getD k c6, fun k => [i0, i1, i2, i3, i4, i5, i6].getD k i6), fun k => [y0, y1, y2, y3, y4, y5, y6].getD k y6, fun k q hq => ?_, fun k q hq => ?_⟩
  · match k, hq with
    | 0, hq => cases hq; exact k0
    | 1, hq => cases hq; exact k1
    | 2, hq => cases hq; exact k2
    | 3, hq => cases hq; exact k3
    | 4, hq => cases hq; exact k4
    | 5, hq => cases hq; exact k5
    | 6, hq => cases hq; exact k6
    | k + 7, hq => exact absurd hq (by simp [vwCl])
  · match k, hq with
    | 0, hq => cases hq; exact ⟨a0, b0⟩
    | 1, hq => cases hq; exact ⟨a1, b1⟩
    | 2, hq => cases hq; exact ⟨a2, b2⟩
    | 3, hq => cases hq; exact ⟨a3, b3⟩
    | 4, hq => cases hq; exact ⟨a4, b4⟩
    | 5, hq => cases hq; exact ⟨a5, b5⟩
    | 6, hq => cases hq; exact ⟨a6, b6⟩
    | k + 7, hq => exact absurd hq (by simp [tyK])
theorem st_S {s : State} {b : Nat} (hts : ∀ w ∈ lw_tbl, w.before #[Value.ref b] s = true) (hgv : (Jvm.Cond.and given_1 narrow_1).before #[Value.ref b] s = true) : ∃ tl : Nat → Nat, ∀ (e : EE) (n : Nat) (D : va_G) (a : Nat → Nat) (cy : Nat → ClassId), sx (e, n, D, a, cy, tl) (fun q : Nat => s.heap.size ≤ q) s s.heap := by
  have hs := flat_of_before _ hgv
  have hA : ∀ a : Nat, a < s.heap.size → ¬ (fun q : Nat => s.heap.size ≤ q) a := fun a h => Nat.not_le.mpr h
  have hini : (Cond.initialized "TheUsual").before #[Value.ref b] s = true := hts _ (List.mem_filter.mp nw_L_7.2.2).1
  obtain ⟨t0, h0, hT0⟩ := va_Tof (args := #[Value.ref b]) (s := s) (tm := .static "TheUsual" "LETTERS" "[I") (ty := .int) (N := 6) (f := fun j => .int (tb0 j)) (A := fun q : Nat => s.heap.size ≤ q) (by decide) (hs _ (by decide +kernel)) (va_eqt (hs _ (by decide +kernel))) (fun j hj => by rcases (show j = 0 ∨ j = 1 ∨ j = 2 ∨ j = 3 ∨ j = 4 ∨ j = 5 by omega) with rfl | rfl | rfl | rfl | rfl | rfl <;> exact va_eqt (hs _ (by decide +kernel))) hA
  obtain ⟨t1, h1, hT1⟩ := va_Tof (args := #[Value.ref b]) (s := s) (tm := .static "TheUsual" "LEAST_FIGURES" "[I") (ty := .int) (N := 6) (f := fun j => .int (tb1 j)) (A := fun q : Nat => s.heap.size ≤ q) (by decide) (hs _ (by decide +kernel)) (va_eqt (hs _ (by decide +kernel))) (fun j hj => by rcases (show j = 0 ∨ j = 1 ∨ j = 2 ∨ j = 3 ∨ j = 4 ∨ j = 5 by omega) with rfl | rfl | rfl | rfl | rfl | rfl <;> exact va_eqt (hs _ (by decide +kernel))) hA
  obtain ⟨t2, h2, hT2⟩ := va_Tof (args := #[Value.ref b]) (s := s) (tm := .static "TheUsual" "GREATEST_FIGURES" "[I") (ty := .int) (N := 6) (f := fun j => .int (tb2 j)) (A := fun q : Nat => s.heap.size ≤ q) (by decide) (hs _ (by decide +kernel)) (va_eqt (hs _ (by decide +kernel))) (fun j hj => by rcases (show j = 0 ∨ j = 1 ∨ j = 2 ∨ j = 3 ∨ j = 4 ∨ j = 5 by omega) with rfl | rfl | rfl | rfl | rfl | rfl <;> exact va_eqt (hs _ (by decide +kernel))) hA
  have z0 := va_Zof (A := fun q : Nat => s.heap.size ≤ q) (hts _ (List.mem_of_getElem? (i := 330) (by decide +kernel))) hini h0 hA
  have z1 := va_Zof (A := fun q : Nat => s.heap.size ≤ q) (hts _ (List.mem_of_getElem? (i := 332) (by decide +kernel))) hini h1 hA
  have z2 := va_Zof (A := fun q : Nat => s.heap.size ≤ q) (hts _ (List.mem_of_getElem? (i := 334) (by decide +kernel))) hini h2 hA
  exact ⟨fun k => if k = 0 then t0 else if k = 1 then t1 else t2, fun e n D a cy => ⟨z0, hT0, z1, hT1, z2, hT2⟩⟩
set_option maxHeartbeats 4000000 in
set_option maxRecDepth 100000 in
/-- from the entry: both objects are made, the loop runs -/
theorem st_walk {X : Cx} {D : va_G} {cy : Nat → ClassId} {tl : Nat → Nat} {b L : Nat} {xv : Nat → Int32} (h : Oi X D cy cL_law RL 4 room_1) (hc : xC X = 66) (hs : xs X = 5189) (hnx : nx (xS X)) (hsx : ∀ (e : EE) (n : Nat) (D : va_G) (a : Nat → Nat) (cy : Nat → ClassId), sx (e, n, D, a, cy, tl) (xA X) (xS X) (xS X).heap) (hX : va_X b L xv (xS X) (xS X).heap) (hbl : b < (xS X).heap.size) (hbA : ¬ xA X b) (hL : L ≤ 3072)
    (kE : ∀ (GC GM : GG) (sc sm : St) (x3 : Int32), Wl X (oC GC) (oM GM) sc sm 1431 (LV b (al (oC GC) 0) (al (oM GM) 0) x3) []) : Wi X D 4 [] 0 0 0 [(0, .ref b)] [] := by
  refine i_new (fs := [.null, .null, .null, .null, .null, .null, .null, .null, .int 0, .int 0, .long 0, .long 0]) (ty := tyX5) (ci := 5) h dL_law_0 rfl uw_5 tyX5_ok nw_L_7 rfl (fun j hj => by rcases (show j = 0 ∨ j = 1 ∨ j = 2 ∨ j = 3 ∨ j = 4 ∨ j = 5 ∨ j = 6 ∨ j = 7 ∨ j = 8 ∨ j = 9 ∨ j = 10 ∨ j = 11 by omega) with rfl | rfl | rfl | rfl | rfl | rfl | rfl | rfl | rfl | rfl | rfl | rfl <;> rfl) rfl rfl ⟨Nat.le_of_ble_eq_true rfl, Nat.le_of_ble_eq_true rfl⟩ (fun q0 => ?_)
  refine i_dup h dL_law_3 rfl rfl ?_
  refine i_callI (wr := []) (isR := []) (q0 := 0) h dL_law_4 rfl im_L_9 wj_X5 ⟨Nat.le_of_ble_eq_true rfl, Nat.le_of_ble_eq_true rfl⟩ (fun l => c_X5_init l D cy q0) rfl rfl rfl (by decide) (Nat.le_of_ble_eq_true rfl) rfl rfl ⟨Nat.le_of_ble_eq_true rfl, Nat.le_of_ble_eq_true rfl⟩ (fun w1 hw1 => ?_)
  obtain ⟨aC, ea, ew⟩ := hw1
  have ew2 := ew tl
  subst ea
  subst ew2
  refine i_ws (ws' := wd (oC (D, aC, cy, tl)) st0C) rfl ?_
  refine i_astore_n (lv' := [(1, .ref (aC 0)), (0, .ref b)]) h dL_law_7 rfl rfl (by decide) [0, 1] rfl ?_
  refine i_new (fs := [.int 0, .null, .int 0, .long 0, .long 0, .null, .null, .null, .null, .null, .int 0, .null, .null, .null, .null, .null, .null, .int 0, .int 0, .null, .null, .int 0, .null, .null, .null, .null, .null, .null, .int 0, .int 0, .int 0, .null, .long 0]) (ty := tyX6) (ci := 6) h dL_law_8 rfl uw_6 tyX6_ok nw_L_10 rfl (fun j hj => by rcases (show j = 0 ∨ j = 1 ∨ j = 2 ∨ j = 3 ∨ j = 4 ∨ j = 5 ∨ j = 6 ∨ j = 7 ∨ j = 8 ∨ j = 9 ∨ j = 10 ∨ j = 11 ∨ j = 12 ∨ j = 13 ∨ j = 14 ∨ j = 15 ∨ j = 16 ∨ j = 17 ∨ j = 18 ∨ j = 19 ∨ j = 20 ∨ j = 21 ∨ j = 22 ∨ j = 23 ∨ j = 24 ∨ j = 25 ∨ j = 26 ∨ j = 27 ∨ j = 28 ∨ j = 29 ∨ j = 30 ∨ j = 31 ∨ j = 32 by omega) with rfl | rfl | rfl | rfl | rfl | rfl | rfl | rfl | rfl | rfl | rfl | rfl | rfl | rfl | rfl | rfl | rfl | rfl | rfl | rfl | rfl | rfl | rfl | rfl | rfl | rfl | rfl | rfl | rfl | rfl | rfl | rfl | rfl <;> rfl) rfl rfl ⟨Nat.le_of_ble_eq_true rfl, Nat.le_of_ble_eq_true rfl⟩ (fun q1 => ?_)
  refine i_dup h dL_law_11 rfl rfl ?_
  refine i_callI (wr := wd (oC (D, aC, cy, tl)) st0C) (isR := List.range 44) (q0 := 44) h dL_law_12 rfl im_L_12 wj_X6 ⟨Nat.le_of_ble_eq_true rfl, Nat.le_of_ble_eq_true rfl⟩ (fun l => c_X6_init l D cy q1) (wa_ho rfl) (wa_hR rfl) (by decide) (fun i hi hj => by have h1 := List.mem_range.mp hi; have h2 := List.mem_singleton.mp hj; omega) (Nat.le_of_ble_eq_true rfl) rfl rfl ⟨Nat.le_of_ble_eq_true rfl, Nat.le_of_ble_eq_true rfl⟩ (fun w1 hw1 => ?_)
  obtain ⟨aM, ea, ew3⟩ := hw1
  have ew4 := ew3 tl
  subst ea
  subst ew4
  refine i_astore_n (lv' := [(2, .ref (aM 0)), (1, .ref (aC 0)), (0, .ref b)]) h dL_law_15 rfl rfl (by decide) [0, 1, 2] rfl ?_
  refine i_iconst (v := 0) h dL_law_16 rfl (by decide +kernel) ?_
  refine i_istore_n (lv' := [(3, .int 0), (2, .ref (aM 0)), (1, .ref (aC 0)), (0, .ref b)]) h dL_law_17 rfl rfl (by decide) [0, 1, 2, 3] rfl ?_
  intro H locs ls hP hD hS hl
  obtain ⟨hP1, hP2⟩ := lx_P hP
  obtain ⟨hD1, hD2, hD3⟩ := lx_D hD
  have hcc : xC X ≤ room_1.cells := by rw [hc]; exact Nat.le_of_ble_eq_true rfl
  have hss : xs X ≤ room_1.slots := by rw [hs]; exact Nat.le_of_ble_eq_true rfl
  have h1 : Ok X (oC (D, aC, cy, tl)) cL_law RL 4 room_1 := ⟨h.1, h.2.1, h.2.2.1, h.2.2.2.1, h.2.2.2.2.1, h.2.2.2.2.2.1, fun st => wd_D hD1, h.2.2.2.2.2.2.1, hsx _ _ _ _ _, h.2.2.2.2.2.2.2.2, hcc, hss, hnx⟩
  have h2 : Ok X (oM (D, aM, cy, tl)) cL_law RL 4 room_1 := ⟨h.1, h.2.1, h.2.2.1, h.2.2.2.1, h.2.2.2.2.1, h.2.2.2.2.2.1, fun st => wd_D hD2, h.2.2.2.2.2.2.1, hsx _ _ _ _ _, h.2.2.2.2.2.2.2.2, hcc, hss, hnx⟩
  have hap : Ap (oC (D, aC, cy, tl)) (oM (D, aM, cy, tl)) := fun k k2 a b e => hD3 k k2 _ _ (wd_get st0C a) (wd_get st0M b) e
  have hw := law_loop (X := X) ⟨h1, h2, hap, hX, hbl, hbA⟩ hL (kE _ _) (L + 1) 0 (Nat.zero_le L) (by omega) st0C st0M R_0 H locs ls hP1 hP2 hS (lv_sub hl [3, 2, 1, 0] rfl)
  rw [hc, hs] at hw
  exact hw
set_option maxHeartbeats 4000000 in
set_option maxRecDepth 100000 in
theorem whole_start {p : Program} {e : Env} {s : State} {m : MethodId} {below : List Frame} {meth : Method} {c : Code} (l : Launch) {b L : Nat} {xs : Nat → Int32} (hL : L ≤ 3072) (C0 : lw_At p s m meth c b L xs) : W p l e room_1 s m #[Value.ref b] below meth c s.heap [] 0 0 (lw_Z below #[Value.ref b] s) (entryFrame m ([Value.ref b] : List Value).toArray 4) := by
  obtain ⟨hx, hb, hr, hml, hown, hts, hX, hbl, hlocks, hgv⟩ := C0
  have hg : ∀ w ∈ gtb, w.before #[Value.ref b] s = true := fun w hw => hts w (List.mem_filter.mp hw).1
  obtain ⟨hnx, hn5⟩ := st_N hts
  obtain ⟨D, cy, hK⟩ := st_K hg hn5
  obtain ⟨tl, hsx⟩ := st_S hts hgv
  have hl := lv_entry [.ref b] (n := 4) (Nat.le_of_ble_eq_true rfl)
  rw [lg_entry_eq]
  exact st_walk (X := (p, l, e, room_1, s, m, #[Value.ref b], below, meth, c, 66, 5189, lw_Z below #[Value.ref b] s, fun q : Nat => s.heap.size ≤ q)) (D := D) (cy := cy) (tl := tl)
    ⟨hx, hb, hml, hown, hg, hK, fun q h => h, hn5, rfl⟩ rfl rfl hnx hsx hX hbl (Nat.not_le.mpr hbl) hL
    (fun GC GM sc sm x3 H locs ls hP hQ hS hl => by
      refine lv_iconst (v := 1) hx hb dL_law_1431 (by decide +kernel) ?_
      refine va_forget (fun q hq => hS.2.2 q hq) ?_
      refine W.widen (k := 600000) (n := 7302250) (Nat.le_of_ble_eq_true rfl) (Nat.le_of_ble_eq_true rfl) ?_
      exact lw_ret hx hb hr hlocks dL_law_1432)
    s.heap [] _ (fun k q h => by simp at h) ⟨fun i j p q h => by simp at h, fun k q h => by simp at h⟩ va_S.rf hl
