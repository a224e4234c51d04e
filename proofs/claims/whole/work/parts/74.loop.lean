/-! THE LOOP -/
theorem sw_law {X : Cx} {GC GM : GG} {b L : Nat} {xv : Nat → Int32} {sc sm : St} {x3 v : Int32} (h : Ol X (oC GC) (oM GM) b L xv) (hi : ∀ v : Int32, (v = 1 ∨ v = 2 ∨ v = 3 ∨ v = 4 ∨ v = 5) → vp_in (x3 + v) L) (hR : RR sc sm) (kb : ∀ sc' sm', RR sc' sm' → Wl X (oC GC) (oM GM) sc' sm' 1425 (LV b (al (oC GC) 0) (al (oM GM) 0) x3) []) : Wl X (oC GC) (oM GM) sc sm 33 (LV b (al (oC GC) 0) (al (oM GM) 0) x3) [.int v] := by
  by_cases hx : v.toInt < 0 ∨ 41 < v.toInt
  · exact l_tout h dL_law_33 hx (by decide) (kb _ _ hR)
  · rcases (show v.toInt = 0 ∨ v.toInt = 1 ∨ v.toInt = 2 ∨ v.toInt = 3 ∨ v.toInt = 4 ∨ v.toInt = 5 ∨ v.toInt = 6 ∨ v.toInt = 7 ∨ v.toInt = 8 ∨ v.toInt = 9 ∨ v.toInt = 10 ∨ v.toInt = 11 ∨ v.toInt = 12 ∨ v.toInt = 13 ∨ v.toInt = 14 ∨ v.toInt = 15 ∨ v.toInt = 16 ∨ v.toInt = 17 ∨ v.toInt = 18 ∨ v.toInt = 19 ∨ v.toInt = 20 ∨ v.toInt = 21 ∨ v.toInt = 22 ∨ v.toInt = 23 ∨ v.toInt = 24 ∨ v.toInt = 25 ∨ v.toInt = 26 ∨ v.toInt = 27 ∨ v.toInt = 28 ∨ v.toInt = 29 ∨ v.toInt = 30 ∨ v.toInt = 31 ∨ v.toInt = 32 ∨ v.toInt = 33 ∨ v.toInt = 34 ∨ v.toInt = 35 ∨ v.toInt = 36 ∨ v.toInt = 37 ∨ v.toInt = 38 ∨ v.toInt = 39 ∨ v.toInt = 40 ∨ v.toInt = 41 by omega) with hz | hz | hz | hz | hz | hz | hz | hz | hz | hz | hz | hz | hz | hz | hz | hz | hz | hz | hz | hz | hz | hz | hz | hz | hz | hz | hz | hz | hz | hz | hz | hz | hz | hz | hz | hz | hz | hz | hz | hz | hz | hz
    · exact l_tin (0) h dL_law_33 hz (by decide) (by decide) rfl (by decide) (lc_0 h hi hR kb)
    · exact l_tin (1) h dL_law_33 hz (by decide) (by decide) rfl (by decide) (lc_1 h hi hR kb)
    · exact l_tin (2) h dL_law_33 hz (by decide) (by decide) rfl (by decide) (lc_2 h hi hR kb)
    · exact l_tin (3) h dL_law_33 hz (by decide) (by decide) rfl (by decide) (lc_3 h hi hR kb)
    · exact l_tin (4) h dL_law_33 hz (by decide) (by decide) rfl (by decide) (lc_4 h hi hR kb)
    · exact l_tin (5) h dL_law_33 hz (by decide) (by decide) rfl (by decide) (lc_5 h hi hR kb)
    · exact l_tin (6) h dL_law_33 hz (by decide) (by decide) rfl (by decide) (lc_6 h hi hR kb)
    · exact l_tin (7) h dL_law_33 hz (by decide) (by decide) rfl (by decide) (lc_7 h hi hR kb)
    · exact l_tin (8) h dL_law_33 hz (by decide) (by decide) rfl (by decide) (lc_8 h hi hR kb)
    · exact l_tin (9) h dL_law_33 hz (by decide) (by decide) rfl (by decide) (lc_9 h hi hR kb)
    · exact l_tin (10) h dL_law_33 hz (by decide) (by decide) rfl (by decide) (lc_10 h hi hR kb)
    · exact l_tin (11) h dL_law_33 hz (by decide) (by decide) rfl (by decide) (lc_11 h hi hR kb)
    · exact l_tin (12) h dL_law_33 hz (by decide) (by decide) rfl (by decide) (lc_12 h hi hR kb)
    · exact l_tin (13) h dL_law_33 hz (by decide) (by decide) rfl (by decide) (lc_13 h hi hR kb)
    · exact l_tin (14) h dL_law_33 hz (by decide) (by decide) rfl (by decide) (lc_14 h hi hR kb)
    · exact l_tin (15) h dL_law_33 hz (by decide) (by decide) rfl (by decide) (lc_15 h hi hR kb)
    · exact l_tin (16) h dL_law_33 hz (by decide) (by decide) rfl (by decide) (lc_16 h hi hR kb)
    · exact l_tin (17) h dL_law_33 hz (by decide) (by decide) rfl (by decide) (lc_17 h hi hR kb)
    · exact l_tin (18) h dL_law_33 hz (by decide) (by decide) rfl (by decide) (lc_18 h hi hR kb)
    · exact l_tin (19) h dL_law_33 hz (by decide) (by decide) rfl (by decide) (lc_19 h hi hR kb)
    · exact l_tin (20) h dL_law_33 hz (by decide) (by decide) rfl (by decide) (lc_20 h hi hR kb)
    · exact l_tin (21) h dL_law_33 hz (by decide) (by decide) rfl (by decide) (lc_21 h hi hR kb)
    · exact l_tin (22) h dL_law_33 hz (by decide) (by decide) rfl (by decide) (lc_22 h hi hR kb)
    · exact l_tin (23) h dL_law_33 hz (by decide) (by decide) rfl (by decide) (lc_23 h hi hR kb)
    · exact l_tin (24) h dL_law_33 hz (by decide) (by decide) rfl (by decide) (lc_24 h hi hR kb)
    · exact l_tin (25) h dL_law_33 hz (by decide) (by decide) rfl (by decide) (lc_25 h hi hR kb)
    · exact l_tin (26) h dL_law_33 hz (by decide) (by decide) rfl (by decide) (lc_26 h hi hR kb)
    · exact l_tin (27) h dL_law_33 hz (by decide) (by decide) rfl (by decide) (lc_27 h hi hR kb)
    · exact l_tin (28) h dL_law_33 hz (by decide) (by decide) rfl (by decide) (lc_28 h hi hR kb)
    · exact l_tin (29) h dL_law_33 hz (by decide) (by decide) rfl (by decide) (lc_29 h hi hR kb)
    · exact l_tin (30) h dL_law_33 hz (by decide) (by decide) rfl (by decide) (lc_30 h hi hR kb)
    · exact l_tin (31) h dL_law_33 hz (by decide) (by decide) rfl (by decide) (lc_31 h hi hR kb)
    · exact l_tin (32) h dL_law_33 hz (by decide) (by decide) rfl (by decide) (lc_32 h hi hR kb)
    · exact l_tin (33) h dL_law_33 hz (by decide) (by decide) rfl (by decide) (lc_33 h hi hR kb)
    · exact l_tin (34) h dL_law_33 hz (by decide) (by decide) rfl (by decide) (lc_34 h hi hR kb)
    · exact l_tin (35) h dL_law_33 hz (by decide) (by decide) rfl (by decide) (lc_35 h hi hR kb)
    · exact l_tin (36) h dL_law_33 hz (by decide) (by decide) rfl (by decide) (lc_36 h hi hR kb)
    · exact l_tin (37) h dL_law_33 hz (by decide) (by decide) rfl (by decide) (lc_37 h hi hR kb)
    · exact l_tin (38) h dL_law_33 hz (by decide) (by decide) rfl (by decide) (lc_38 h hi hR kb)
    · exact l_tin (39) h dL_law_33 hz (by decide) (by decide) rfl (by decide) (lc_39 h hi hR kb)
    · exact l_tin (40) h dL_law_33 hz (by decide) (by decide) rfl (by decide) (lc_40 h hi hR kb)
    · exact l_tin (41) h dL_law_33 hz (by decide) (by decide) rfl (by decide) (lc_41 h hi hR kb)
theorem law_loop {X : Cx} {GC GM : GG} {b L : Nat} {xv : Nat → Int32} (h : Ol X (oC GC) (oM GM) b L xv) (hL : L ≤ 3072) (kE : ∀ sc sm x3, Wl X (oC GC) (oM GM) sc sm 1431 (LV b (al (oC GC) 0) (al (oM GM) 0) x3) []) : ∀ (n j : Nat), j ≤ L → L + 1 ≤ j + n → ∀ sc sm, RR sc sm → Wl X (oC GC) (oM GM) sc sm 18 (LV b (al (oC GC) 0) (al (oM GM) 0) (nI j)) [] := by
  intro n
  induction n with
  | zero =>
    intro j h1 h2
    exact absurd h2 (by omega)
  | succ n ih =>
    intro j hj hn sc sm hR
    refine l_il h dL_law_18 rfl rfl 3 rfl ?_
    refine l_al h dL_law_19 rfl rfl 0 rfl ?_
    refine l_slen h dL_law_20 rfl ?_
    refine l_bipush (v := 6) h dL_law_21 rfl (by decide +kernel) ?_
    refine l_isub h dL_law_23 rfl ?_
    refine l_icmpgt (tgt := 1431) h dL_law_24 rfl (by decide) (fun _ => kE _ _ _) (fun c9 => ?_)
    have hlt : j + 6 ≤ L := by
      rcases Nat.lt_or_ge L (j + 6) with q | q
      · exact absurd (lt_six hL (by omega) q) c9
      · exact q
    have hi : ∀ v : Int32, (v = 1 ∨ v = 2 ∨ v = 3 ∨ v = 4 ∨ v = 5) → vp_in (nI j + v) L := by
      rintro v (rfl | rfl | rfl | rfl | rfl)
      · exact in_six (k := 1) hL (by omega)
      · exact in_six (k := 2) hL (by omega)
      · exact in_six (k := 3) hL (by omega)
      · exact in_six (k := 4) hL (by omega)
      · exact in_six (k := 5) hL (by omega)
    refine l_al h dL_law_27 rfl rfl 0 rfl ?_
    refine l_il h dL_law_28 rfl rfl 3 rfl ?_
    refine l_sld h dL_law_29 rfl (vp_in_nI (by omega) (by omega)) ?_
    refine l_bipush (v := 63) h dL_law_30 rfl (by decide +kernel) ?_
    refine l_iand h dL_law_32 rfl ?_
    refine sw_law h hi hR (fun sc' sm' hR' => ?_)
    refine l_iinc (lv' := LV b (al (oC GC) 0) (al (oM GM) 0) (nI (j + 6))) (v := nI (j + 6)) h dL_law_1425 rfl 3 rfl (nI_add j 6) (by decide) [1, 2, 3, 0] rfl ?_
    refine l_goto (tgt := 18) h dL_law_1428 (by decide) ?_
    exact ih (j + 6) (by omega) (by omega) _ _ hR'
