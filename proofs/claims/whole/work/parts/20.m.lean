noncomputable def f_X4_takeFrom (k : Nat) (k0 : Nat) (st : St) : Option (St) :=
  (gd (cpg (0 : Int32) (0 : Int32) (st.1 k0 2) 60 60) (ls (sA st (k + 4) (va_cpy (st.1 (k0 + 4)) (st.1 (k + 4)) (0 : Int32).toNatClampNeg (0 : Int32).toNatClampNeg (st.1 k0 2).toNatClampNeg)) (fun s4 => (gd (cpg (0 : Int32) (0 : Int32) (s4.1 k0 2) 60 60) (ls (sA s4 (k + 8) (va_cpy (s4.1 (k0 + 8)) (s4.1 (k + 8)) (0 : Int32).toNatClampNeg (0 : Int32).toNatClampNeg (s4.1 k0 2).toNatClampNeg)) (fun s8 => (ls (sA s8 k (upd (s8.1 k) 2 (s8.1 k0 2))) (fun s9 => (some s9)))))))))
set_option maxHeartbeats 4000000 in
theorem c_X4_takeFrom {G : GG} (l : Launch) (k : Nat) (k0 : Nat) (st : St) (hka : 30 ≤ k) (hkb : k < 34) (hk0a : 30 ≤ k0) (hk0b : k0 < 34) (st' : St) (hf : f_X4_takeFrom k k0 st = some st') : MM l yX4_takeFrom cX4_takeFrom 2 none 1 (oC G) [.ref (al (oC G) k), .ref (al (oC G) k0)] st none st' := by
  refine mk_MM (by decide +kernel) (Nat.le_of_ble_eq_true rfl) (fun X h r => ?_)
  refine k_sub (lv' := [(0, .ref (al (oC G) k)), (1, .ref (al (oC G) k0))]) [0, 1] rfl ?_
  unfold f_X4_takeFrom at hf
  refine k_aload_n (pc' := 1) h dX4_takeFrom_0 rfl rfl 1 rfl ?_
  have z1a : 34 ≤ k0 + 4 := by have := hk0a; omega
  have z1b : k0 + 4 < 42 := by have := hk0b; omega
  refine k_get (v := .ref (al (oC G) (k0 + 4))) (pc' := 4) h dX4_takeFrom_1 rfl (bC_tu hk0a hk0b) fl_X4_9 rfl ?_
  refine k_iconst (pc' := 5) h dX4_takeFrom_4 rfl ci_0 ?_
  refine k_aload_n (pc' := 6) h dX4_takeFrom_5 rfl rfl 0 rfl ?_
  have z2a : 34 ≤ k + 4 := by have := hka; omega
  have z2b : k + 4 < 42 := by have := hkb; omega
  refine k_get (v := .ref (al (oC G) (k + 4))) (pc' := 9) h dX4_takeFrom_6 rfl (bC_tu hka hkb) fl_X4_9 rfl ?_
  refine k_iconst (pc' := 10) h dX4_takeFrom_9 rfl ci_0 ?_
  refine k_aload_n (pc' := 11) h dX4_takeFrom_10 rfl rfl 1 rfl ?_
  refine k_get (v := .int (st.1 k0 2)) (pc' := 14) h dX4_takeFrom_11 rfl (bC_tu hk0a hk0b) fl_X4_18 rfl ?_
  have g3 := cpg_all (gd_1 hf)
  replace hf := gd_2 hf
  refine k_cpy (pc' := 17) h dX4_takeFrom_14 rfl ml_X4_22 w_copy (aC_wl z1a z1b) (aC_wl z2a z2b) g3.1 g3.2.1 g3.2.2.1 g3.2.2.2.1 g3.2.2.2.2 ⟨Nat.le_of_ble_eq_true rfl, Nat.le_of_ble_eq_true rfl⟩ ?_
  obtain ⟨s4, hs4, hf⟩ := ls_s hf
  refine k_st hs4 ?_
  refine k_aload_n (pc' := 18) h dX4_takeFrom_17 rfl rfl 1 rfl ?_
  have z5a : 34 ≤ k0 + 8 := by have := hk0a; omega
  have z5b : k0 + 8 < 42 := by have := hk0b; omega
  refine k_get (v := .ref (al (oC G) (k0 + 8))) (pc' := 21) h dX4_takeFrom_18 rfl (bC_tu hk0a hk0b) fl_X4_15 rfl ?_
  refine k_iconst (pc' := 22) h dX4_takeFrom_21 rfl ci_0 ?_
  refine k_aload_n (pc' := 23) h dX4_takeFrom_22 rfl rfl 0 rfl ?_
  have z6a : 34 ≤ k + 8 := by have := hka; omega
  have z6b : k + 8 < 42 := by have := hkb; omega
  refine k_get (v := .ref (al (oC G) (k + 8))) (pc' := 26) h dX4_takeFrom_23 rfl (bC_tu hka hkb) fl_X4_15 rfl ?_
  refine k_iconst (pc' := 27) h dX4_takeFrom_26 rfl ci_0 ?_
  refine k_aload_n (pc' := 28) h dX4_takeFrom_27 rfl rfl 1 rfl ?_
  refine k_get (v := .int (s4.1 k0 2)) (pc' := 31) h dX4_takeFrom_28 rfl (bC_tu hk0a hk0b) fl_X4_18 rfl ?_
  have g7 := cpg_all (gd_1 hf)
  replace hf := gd_2 hf
  refine k_cpy (pc' := 34) h dX4_takeFrom_31 rfl ml_X4_22 w_copy (aC_wl z5a z5b) (aC_wl z6a z6b) g7.1 g7.2.1 g7.2.2.1 g7.2.2.2.1 g7.2.2.2.2 ⟨Nat.le_of_ble_eq_true rfl, Nat.le_of_ble_eq_true rfl⟩ ?_
  obtain ⟨s8, hs8, hf⟩ := ls_s hf
  refine k_st hs8 ?_
  refine k_aload_n (pc' := 35) h dX4_takeFrom_34 rfl rfl 0 rfl ?_
  refine k_aload_n (pc' := 36) h dX4_takeFrom_35 rfl rfl 1 rfl ?_
  refine k_get (v := .int (s8.1 k0 2)) (pc' := 39) h dX4_takeFrom_36 rfl (bC_tu hk0a hk0b) fl_X4_18 rfl ?_
  refine k_put (pc' := 42) h dX4_takeFrom_39 rfl (bC_tu hka hkb) fp_X4_18 sf_tu_2 sj_tu_2 ?_
  obtain ⟨s9, hs9, hf⟩ := ls_s hf
  refine k_st hs9 ?_
  exact k_vret h r dX4_takeFrom_42 (lf_v hf)
noncomputable def l_X0_takeFrom_2 (p0 : Nat) (v2 : Int32) (st : St) : Option ((Int32 × St) ⊕ (Int32 × St)) :=
  (if (st.1 15 2) ≤ v2 then (some (.inr (v2, st))) else (gd (inb v2 6) (gd (inb v2 6) (ls (sA st (p0 + 3) (upd (st.1 (p0 + 3)) v2.toNatClampNeg (st.1 (17 + v2.toNatClampNeg) 4))) (fun s5 => (some (.inl (v2 + (1 : Int32), s5))))))))
set_option maxHeartbeats 4000000 in
theorem w_X0_takeFrom_2 {G : GG} {X : Cx} (h : Ok X (oC G) cX0_takeFrom RX0 3 (RM 2))  (p0 : Nat) (hp0a : 24 ≤ p0) (hp0b : p0 < 27) (n : Nat) (v2 : Int32) (st : St) (q : Int32 × St) (hq : iter (fun v : Int32 × St => l_X0_takeFrom_2 p0 v.1 v.2) n (v2, st) = some q) (kx : Wk X (oC G) 3 q.2 31 [(0, .ref (al (oC G) p0)), (1, .ref (al (oC G) 15)), (2, .int q.1)] []) : Wk X (oC G) 3 st 2 [(0, .ref (al (oC G) p0)), (1, .ref (al (oC G) 15)), (2, .int v2)] [] := by
  refine iter_rule (hd := (fun v : Int32 × St => Wk X (oC G) 3 v.2 2 [(0, .ref (al (oC G) p0)), (1, .ref (al (oC G) 15)), (2, .int v.1)] [])) (ex := (fun v : Int32 × St => Wk X (oC G) 3 v.2 31 [(0, .ref (al (oC G) p0)), (1, .ref (al (oC G) 15)), (2, .int v.1)] [])) ?_ n (v2, st) q hq kx
  rintro ⟨v2, st⟩ oo hbv K
  show Wk X (oC G) 3 st 2 [(0, .ref (al (oC G) p0)), (1, .ref (al (oC G) 15)), (2, .int v2)] []
  have hf : l_X0_takeFrom_2 p0 v2 st = some oo := hbv
  unfold l_X0_takeFrom_2 at hf
  refine k_iload_n (pc' := 3) h dX0_takeFrom_2 rfl rfl 2 rfl ?_
  refine k_aload_n (pc' := 4) h dX0_takeFrom_3 rfl rfl 1 rfl ?_
  refine k_get (v := .int (st.1 15 2)) (pc' := 7) h dX0_takeFrom_4 rfl bC_sh fl_X0_22 rfl ?_
  refine k_icmp_ge (tgt := 31) (pc' := 10) h dX0_takeFrom_7 rfl rfl (fun c1 => ?_) (fun c1 => ?_)
  · replace hf := if_t c1 hf
    refine k_sub (lv' := [(0, .ref (al (oC G) p0)), (1, .ref (al (oC G) 15)), (2, .int v2)]) [0, 1, 2] rfl ?_
    exact lp_o hf K
  · replace hf := if_f c1 hf
    refine k_aload_n (pc' := 11) h dX0_takeFrom_10 rfl rfl 0 rfl ?_
    have z2a : 27 ≤ p0 + 3 := by have := hp0a; omega
    have z2b : p0 + 3 < 30 := by have := hp0b; omega
    refine k_get (v := .ref (al (oC G) (p0 + 3))) (pc' := 14) h dX0_takeFrom_11 rfl (bC_ke hp0a hp0b) fl_X0_9 rfl ?_
    refine k_iload_n (pc' := 15) h dX0_takeFrom_14 rfl rfl 2 rfl ?_
    refine k_aload_n (pc' := 16) h dX0_takeFrom_15 rfl rfl 1 rfl ?_
    refine k_get (v := .ref (al (oC G) 16)) (pc' := 19) h dX0_takeFrom_16 rfl bC_sh fl_X0_28 rfl ?_
    refine k_iload_n (pc' := 20) h dX0_takeFrom_19 rfl rfl 2 rfl ?_
    have g3 := gd_1 hf
    replace hf := gd_2 hf
    refine k_aald (tt := .object "TheUsual$Regular") (pc' := 21) h dX0_takeFrom_20 rfl rC_regs rfl rfl g3 ?_
    refine k_get (v := .int (st.1 (17 + v2.toNatClampNeg) 4)) (pc' := 24) h dX0_takeFrom_21 rfl (bC_re (Nat.le_add_right 17 v2.toNatClampNeg) (Nat.add_lt_add_left (inb_lt g3) 17)) fl_X0_32 rfl ?_
    have g4 := gd_1 hf
    replace hf := gd_2 hf
    refine k_iast (pc' := 25) h dX0_takeFrom_24 rfl (aC_oth z2a z2b) g4 ?_
    obtain ⟨s5, hs5, hf⟩ := ls_s hf
    refine k_st hs5 ?_
    refine k_iinc (lv' := [(0, .ref (al (oC G) p0)), (1, .ref (al (oC G) 15)), (2, .int (v2 + (1 : Int32)))]) (pc' := 28) h dX0_takeFrom_25 rfl 2 rfl (congrArg (fun z => v2 + z) ci_1) (Nat.le_of_ble_eq_true rfl) [1, 2, 0] rfl ?_
    refine k_goto (tgt := 2) h dX0_takeFrom_28 rfl ?_
    refine k_sub (lv' := [(0, .ref (al (oC G) p0)), (1, .ref (al (oC G) 15)), (2, .int (v2 + (1 : Int32)))]) [0, 1, 2] rfl ?_
    exact lp_o hf K
noncomputable def f_X0_takeFrom (k : Nat) (st : St) : Option (St) :=
  ((iter (fun v : Int32 × St => l_X0_takeFrom_2 k v.1 v.2) fuel ((0 : Int32), st)).bind (fun q6 => ((f_X4_takeFrom (k + 6) 33 q6.2).bind (fun q8 => (ls (sA q8 k (upd (q8.1 k) 2 (1 : Int32))) (fun s9 => (some s9)))))))
set_option maxHeartbeats 4000000 in
theorem c_X0_takeFrom {G : GG} (l : Launch) (k : Nat) (st : St) (hka : 24 ≤ k) (hkb : k < 27) (st' : St) (hf : f_X0_takeFrom k st = some st') : MM l yX0_takeFrom cX0_takeFrom 3 none 2 (oC G) [.ref (al (oC G) k), .ref (al (oC G) 15)] st none st' := by
  refine mk_MM (by decide +kernel) (Nat.le_of_ble_eq_true rfl) (fun X h r => ?_)
  refine k_sub (lv' := [(0, .ref (al (oC G) k)), (1, .ref (al (oC G) 15))]) [0, 1] rfl ?_
  unfold f_X0_takeFrom at hf
  refine k_iconst (pc' := 1) h dX0_takeFrom_0 rfl ci_0 ?_
  refine k_istore_n (lv' := [(0, .ref (al (oC G) k)), (1, .ref (al (oC G) 15)), (2, .int (0 : Int32))]) (pc' := 2) h dX0_takeFrom_1 rfl rfl (Nat.le_of_ble_eq_true rfl) [1, 2, 0] rfl ?_
  obtain ⟨q6, hq6, hf⟩ := bd_s hf
  refine w_X0_takeFrom_2 h k hka hkb fuel (0 : Int32) st q6 hq6 ?_
  refine k_aload_n (pc' := 32) h dX0_takeFrom_31 rfl rfl 0 rfl ?_
  have z7a : 30 ≤ k + 6 := by have := hka; omega
  have z7b : k + 6 < 34 := by have := hkb; omega
  refine k_get (v := .ref (al (oC G) (k + 6))) (pc' := 35) h dX0_takeFrom_32 rfl (bC_ke hka hkb) fl_X0_18 rfl ?_
  refine k_aload_n (pc' := 36) h dX0_takeFrom_35 rfl rfl 1 rfl ?_
  refine k_get (v := .ref (al (oC G) 33)) (pc' := 39) h dX0_takeFrom_36 rfl bC_sh fl_X0_37 rfl ?_
  obtain ⟨q8, hq8, hf⟩ := bd_s hf
  refine k_callV (As := [.ref (al (oC G) 33)]) (rest := []) (rv := none) (st' := q8) (stk' := []) (pc' := 42) h dX0_takeFrom_39 rfl ml_X0_38 wc_X4_takeFrom wi_X4_takeFrom ⟨Nat.le_of_ble_eq_true rfl, Nat.le_of_ble_eq_true rfl⟩ (bC_tu z7a z7b) rfl rfl rfl rfl (Nat.le_of_ble_eq_true rfl) (fun l => c_X4_takeFrom l (k + 6) 33 q6.2 z7a z7b (Nat.le_of_ble_eq_true rfl : 30 ≤ 33) (Nat.le_of_ble_eq_true rfl : 33 < 34) _ hq8) rfl ?_
  refine k_aload_n (pc' := 43) h dX0_takeFrom_42 rfl rfl 0 rfl ?_
  refine k_iconst (pc' := 44) h dX0_takeFrom_43 rfl ci_1 ?_
  refine k_putz (pc' := 47) h dX0_takeFrom_44 rfl (bC_ke hka hkb) fp_X0_42 (by decide) sf_ke_2 sj_ke_2 ?_
  obtain ⟨s9, hs9, hf⟩ := ls_s hf
  refine k_st hs9 ?_
  exact k_vret h r dX0_takeFrom_47 (lf_v hf)
noncomputable def f_X5_wantsOther (x0 : Int32) (x1 : Int32) (st : St) : Option (Int32 × St) :=
  (if x0 = (2 : Int32) then (if x1 < (3 : Int32) then (some ((0 : Int32), st)) else (some ((1 : Int32), st))) else (if x0 = (3 : Int32) then (some ((0 : Int32), st)) else (if x0 = (4 : Int32) then (gd (nz (2 : Int32)) (if (x1 - x1 / (2 : Int32) * (2 : Int32)) = (1 : Int32) then (some ((1 : Int32), st)) else (some ((0 : Int32), st)))) else (if x0 = (5 : Int32) then (gd (nz (5 : Int32)) (if (x1 - x1 / (5 : Int32) * (5 : Int32)) = (4 : Int32) then (if (3 : Int32) ≤ x1 then (some ((0 : Int32), st)) else (some ((1 : Int32), st))) else (if x1 < (3 : Int32) then (some ((0 : Int32), st)) else (some ((1 : Int32), st))))) else (some ((0 : Int32), st))))))
set_option maxHeartbeats 4000000 in
theorem c_X5_wantsOther {G : GG} (l : Launch) (x0 : Int32) (x1 : Int32) (st : St)  (rr : Int32) (st' : St) (hf : f_X5_wantsOther x0 x1 st = some (rr, st')) : MM l yX5_wantsOther cX5_wantsOther 2 (some .boolean) 0 (oC G) [.int x0, .int x1] st (some (.int rr)) st' := by
  refine mk_MM (by decide +kernel) (Nat.le_of_ble_eq_true rfl) (fun X h r => ?_)
  refine k_sub (lv' := [(0, .int x0), (1, .int x1)]) [0, 1] rfl ?_
  unfold f_X5_wantsOther at hf
  refine k_iload_n (pc' := 1) h dX5_wantsOther_0 rfl rfl 0 rfl ?_
  by_cases c1 : x0 = (2 : Int32)
  · replace hf := if_t c1 hf
    refine k_tin (tgt := 32) h 2 dX5_wantsOther_1 (by rw [c1]; decide +kernel) (by decide) (by decide) rfl rfl ?_
    refine k_iload_n (pc' := 33) h dX5_wantsOther_32 rfl rfl 1 rfl ?_
    refine k_iconst (pc' := 34) h dX5_wantsOther_33 rfl ci_3 ?_
    refine k_icmp_lt (tgt := 41) (pc' := 37) h dX5_wantsOther_34 rfl rfl (fun c2 => ?_) (fun c2 => ?_)
    · replace hf := if_t c2 hf
      refine k_iconst (pc' := 42) h dX5_wantsOther_41 rfl ci_0 ?_
      exact k_zret h r dX5_wantsOther_42 (by decide) (lf_i hf)
    · replace hf := if_f c2 hf
      refine k_iconst (pc' := 38) h dX5_wantsOther_37 rfl ci_1 ?_
      refine k_goto (tgt := 42) h dX5_wantsOther_38 rfl ?_
      exact k_zret h r dX5_wantsOther_42 (by decide) (lf_i hf)
  replace hf := if_f c1 hf
  by_cases c3 : x0 = (3 : Int32)
  · replace hf := if_t c3 hf
    refine k_tin (tgt := 87) h 3 dX5_wantsOther_1 (by rw [c3]; decide +kernel) (by decide) (by decide) rfl rfl ?_
    refine k_iconst (pc' := 88) h dX5_wantsOther_87 rfl ci_0 ?_
    exact k_zret h r dX5_wantsOther_88 (by decide) (lf_i hf)
  replace hf := if_f c3 hf
  by_cases c4 : x0 = (4 : Int32)
  · replace hf := if_t c4 hf
    refine k_tin (tgt := 74) h 4 dX5_wantsOther_1 (by rw [c4]; decide +kernel) (by decide) (by decide) rfl rfl ?_
    refine k_iload_n (pc' := 75) h dX5_wantsOther_74 rfl rfl 1 rfl ?_
    refine k_iconst (pc' := 76) h dX5_wantsOther_75 rfl ci_2 ?_
    have g5 := gd_1 hf
    replace hf := gd_2 hf
    refine k_irem (pc' := 77) h dX5_wantsOther_76 rfl (nz_n g5) ?_
    refine k_iconst (pc' := 78) h dX5_wantsOther_77 rfl ci_1 ?_
    refine k_icmp_ne (tgt := 85) (pc' := 81) h dX5_wantsOther_78 rfl rfl (fun c6 => ?_) (fun c6 => ?_)
    · replace hf := if_f c6 hf
      refine k_iconst (pc' := 86) h dX5_wantsOther_85 rfl ci_0 ?_
      exact k_zret h r dX5_wantsOther_86 (by decide) (lf_i hf)
    · replace hf := if_t c6 hf
      refine k_iconst (pc' := 82) h dX5_wantsOther_81 rfl ci_1 ?_
      refine k_goto (tgt := 86) h dX5_wantsOther_82 rfl ?_
      exact k_zret h r dX5_wantsOther_86 (by decide) (lf_i hf)
  replace hf := if_f c4 hf
  by_cases c7 : x0 = (5 : Int32)
  · replace hf := if_t c7 hf
    refine k_tin (tgt := 43) h 5 dX5_wantsOther_1 (by rw [c7]; decide +kernel) (by decide) (by decide) rfl rfl ?_
    refine k_iload_n (pc' := 44) h dX5_wantsOther_43 rfl rfl 1 rfl ?_
    refine k_iconst (pc' := 45) h dX5_wantsOther_44 rfl ci_5 ?_
    have g8 := gd_1 hf
    replace hf := gd_2 hf
    refine k_irem (pc' := 46) h dX5_wantsOther_45 rfl (nz_n g8) ?_
    refine k_iconst (pc' := 47) h dX5_wantsOther_46 rfl ci_4 ?_
    refine k_icmp_ne (tgt := 63) (pc' := 50) h dX5_wantsOther_47 rfl rfl (fun c9 => ?_) (fun c9 => ?_)
    · replace hf := if_f c9 hf
      refine k_iload_n (pc' := 64) h dX5_wantsOther_63 rfl rfl 1 rfl ?_
      refine k_iconst (pc' := 65) h dX5_wantsOther_64 rfl ci_3 ?_
      refine k_icmp_lt (tgt := 72) (pc' := 68) h dX5_wantsOther_65 rfl rfl (fun c10 => ?_) (fun c10 => ?_)
      · replace hf := if_t c10 hf
        refine k_iconst (pc' := 73) h dX5_wantsOther_72 rfl ci_0 ?_
        exact k_zret h r dX5_wantsOther_73 (by decide) (lf_i hf)
      · replace hf := if_f c10 hf
        refine k_iconst (pc' := 69) h dX5_wantsOther_68 rfl ci_1 ?_
        refine k_goto (tgt := 73) h dX5_wantsOther_69 rfl ?_
        exact k_zret h r dX5_wantsOther_73 (by decide) (lf_i hf)
    · replace hf := if_t c9 hf
      refine k_iload_n (pc' := 51) h dX5_wantsOther_50 rfl rfl 1 rfl ?_
      refine k_iconst (pc' := 52) h dX5_wantsOther_51 rfl ci_3 ?_
      refine k_icmp_ge (tgt := 59) (pc' := 55) h dX5_wantsOther_52 rfl rfl (fun c11 => ?_) (fun c11 => ?_)
      · replace hf := if_t c11 hf
        refine k_iconst (pc' := 60) h dX5_wantsOther_59 rfl ci_0 ?_
        refine k_goto (tgt := 73) h dX5_wantsOther_60 rfl ?_
        exact k_zret h r dX5_wantsOther_73 (by decide) (lf_i hf)
      · replace hf := if_f c11 hf
        refine k_iconst (pc' := 56) h dX5_wantsOther_55 rfl ci_1 ?_
        refine k_goto (tgt := 73) h dX5_wantsOther_56 rfl ?_
        exact k_zret h r dX5_wantsOther_73 (by decide) (lf_i hf)
  replace hf := if_f c7 hf
  have hsw : x0.toInt ≠ 2 ∧ x0.toInt ≠ 3 ∧ x0.toInt ≠ 4 ∧ x0.toInt ≠ 5 := ⟨sw_ne c1 (by decide +kernel), sw_ne c3 (by decide +kernel), sw_ne c4 (by decide +kernel), sw_ne c7 (by decide +kernel)⟩
  refine k_tout (tgt := 87) h dX5_wantsOther_1 (by omega) rfl ?_
  refine k_iconst (pc' := 88) h dX5_wantsOther_87 rfl ci_0 ?_
  exact k_zret h r dX5_wantsOther_88 (by decide) (lf_i hf)
noncomputable def f_X2_wantOn (k : Nat) (x0 : Int32) (st : St) : Option (Int32 × St) :=
  ((f_X5_wantsOther (st.1 k 0) x0 st).bind (fun q1 => (if q1.1 = 0 then (some (q1.2.1 k 3, q1.2)) else (some (q1.2.1 k 4, q1.2)))))
set_option maxHeartbeats 4000000 in
theorem c_X2_wantOn {G : GG} (l : Launch) (k : Nat) (x0 : Int32) (st : St) (hka : 17 ≤ k) (hkb : k < 23) (rr : Int32) (st' : St) (hf : f_X2_wantOn k x0 st = some (rr, st')) : MM l yX2_wantOn cX2_wantOn 2 (some .int) 1 (oC G) [.ref (al (oC G) k), .int x0] st (some (.int rr)) st' := by
  refine mk_MM (by decide +kernel) (Nat.le_of_ble_eq_true rfl) (fun X h r => ?_)
  refine k_sub (lv' := [(0, .ref (al (oC G) k)), (1, .int x0)]) [0, 1] rfl ?_
  unfold f_X2_wantOn at hf
  refine k_aload_n (pc' := 1) h dX2_wantOn_0 rfl rfl 0 rfl ?_
  refine k_get (v := .int (st.1 k 0)) (pc' := 4) h dX2_wantOn_1 rfl (bC_re hka hkb) fl_X2_13 rfl ?_
  refine k_iload_n (pc' := 5) h dX2_wantOn_4 rfl rfl 1 rfl ?_
  obtain ⟨q1, hq1, hf⟩ := bd_s hf
  refine k_callSN (As := [.int (st.1 k 0), .int x0]) (rest := []) (rv := some (.int q1.1)) (st' := q1.2) (stk' := [.int q1.1]) (pc' := 8) h dX2_wantOn_5 rfl (fun z => z.2) wc_X5_wantsOther ws_X5_wantsOther ⟨Nat.le_of_ble_eq_true rfl, Nat.le_of_ble_eq_true rfl⟩ rfl rfl (Nat.le_of_ble_eq_true rfl) (fun l => c_X5_wantsOther l (st.1 k 0) x0 st  _ _ hq1) rfl ?_
  refine k_if_eq (tgt := 18) (pc' := 11) h dX2_wantOn_8 rfl rfl (fun c2 => ?_) (fun c2 => ?_)
  · replace hf := if_t c2 hf
    refine k_aload_n (pc' := 19) h dX2_wantOn_18 rfl rfl 0 rfl ?_
    refine k_get (v := .int (q1.2.1 k 3)) (pc' := 22) h dX2_wantOn_19 rfl (bC_re hka hkb) fl_X2_25 rfl ?_
    exact k_iret h r dX2_wantOn_22 (lf_i hf)
  · replace hf := if_f c2 hf
    refine k_aload_n (pc' := 12) h dX2_wantOn_11 rfl rfl 0 rfl ?_
    refine k_get (v := .int (q1.2.1 k 4)) (pc' := 15) h dX2_wantOn_12 rfl (bC_re hka hkb) fl_X2_28 rfl ?_
    refine k_goto (tgt := 22) h dX2_wantOn_15 rfl ?_
    exact k_iret h r dX2_wantOn_22 (lf_i hf)
noncomputable def f_X2_isOf (k : Nat) (x0 : Int32) (st : St) : Option (Int32 × St) :=
  (if (st.1 k 0) = x0 then (some ((1 : Int32), st)) else (if x0 = 0 then (some ((1 : Int32), st)) else (if (st.1 k 0) = (4 : Int32) then (if x0 = (1 : Int32) then (some ((1 : Int32), st)) else (if (st.1 k 0) = (5 : Int32) then (if x0 = (2 : Int32) then (some ((1 : Int32), st)) else (some ((0 : Int32), st))) else (some ((0 : Int32), st)))) else (if (st.1 k 0) = (5 : Int32) then (if x0 = (2 : Int32) then (some ((1 : Int32), st)) else (some ((0 : Int32), st))) else (some ((0 : Int32), st))))))
set_option maxHeartbeats 4000000 in
theorem c_X2_isOf {G : GG} (l : Launch) (k : Nat) (x0 : Int32) (st : St) (hka : 17 ≤ k) (hkb : k < 23) (rr : Int32) (st' : St) (hf : f_X2_isOf k x0 st = some (rr, st')) : MM l yX2_isOf cX2_isOf 2 (some .boolean) 0 (oC G) [.ref (al (oC G) k), .int x0] st (some (.int rr)) st' := by
  refine mk_MM (by decide +kernel) (Nat.le_of_ble_eq_true rfl) (fun X h r => ?_)
  refine k_sub (lv' := [(0, .ref (al (oC G) k)), (1, .int x0)]) [0, 1] rfl ?_
  unfold f_X2_isOf at hf
  refine k_aload_n (pc' := 1) h dX2_isOf_0 rfl rfl 0 rfl ?_
  refine k_get (v := .int (st.1 k 0)) (pc' := 4) h dX2_isOf_1 rfl (bC_re hka hkb) fl_X2_13 rfl ?_
  refine k_iload_n (pc' := 5) h dX2_isOf_4 rfl rfl 1 rfl ?_
  refine k_icmp_eq (tgt := 38) (pc' := 8) h dX2_isOf_5 rfl rfl (fun c1 => ?_) (fun c1 => ?_)
  · replace hf := if_t c1 hf
    refine k_iconst (pc' := 39) h dX2_isOf_38 rfl ci_1 ?_
    refine k_goto (tgt := 43) h dX2_isOf_39 rfl ?_
    exact k_zret h r dX2_isOf_43 (by decide) (lf_i hf)
  · replace hf := if_f c1 hf
    refine k_iload_n (pc' := 9) h dX2_isOf_8 rfl rfl 1 rfl ?_
    refine k_if_eq (tgt := 38) (pc' := 12) h dX2_isOf_9 rfl rfl (fun c2 => ?_) (fun c2 => ?_)
    · replace hf := if_t c2 hf
      refine k_iconst (pc' := 39) h dX2_isOf_38 rfl ci_1 ?_
      refine k_goto (tgt := 43) h dX2_isOf_39 rfl ?_
      exact k_zret h r dX2_isOf_43 (by decide) (lf_i hf)
    · replace hf := if_f c2 hf
      refine k_aload_n (pc' := 13) h dX2_isOf_12 rfl rfl 0 rfl ?_
      refine k_get (v := .int (st.1 k 0)) (pc' := 16) h dX2_isOf_13 rfl (bC_re hka hkb) fl_X2_13 rfl ?_
      refine k_iconst (pc' := 17) h dX2_isOf_16 rfl ci_4 ?_
      refine k_icmp_ne (tgt := 25) (pc' := 20) h dX2_isOf_17 rfl rfl (fun c3 => ?_) (fun c3 => ?_)
      · replace hf := if_f c3 hf
        refine k_aload_n (pc' := 26) h dX2_isOf_25 rfl rfl 0 rfl ?_
        refine k_get (v := .int (st.1 k 0)) (pc' := 29) h dX2_isOf_26 rfl (bC_re hka hkb) fl_X2_13 rfl ?_
        refine k_iconst (pc' := 30) h dX2_isOf_29 rfl ci_5 ?_
        refine k_icmp_ne (tgt := 42) (pc' := 33) h dX2_isOf_30 rfl rfl (fun c4 => ?_) (fun c4 => ?_)
        · replace hf := if_f c4 hf
          refine k_iconst (pc' := 43) h dX2_isOf_42 rfl ci_0 ?_
          exact k_zret h r dX2_isOf_43 (by decide) (lf_i hf)
        · replace hf := if_t c4 hf
          refine k_iload_n (pc' := 34) h dX2_isOf_33 rfl rfl 1 rfl ?_
          refine k_iconst (pc' := 35) h dX2_isOf_34 rfl ci_2 ?_
          refine k_icmp_ne (tgt := 42) (pc' := 38) h dX2_isOf_35 rfl rfl (fun c5 => ?_) (fun c5 => ?_)
          · replace hf := if_f c5 hf
            refine k_iconst (pc' := 43) h dX2_isOf_42 rfl ci_0 ?_
            exact k_zret h r dX2_isOf_43 (by decide) (lf_i hf)
          · replace hf := if_t c5 hf
            refine k_iconst (pc' := 39) h dX2_isOf_38 rfl ci_1 ?_
            refine k_goto (tgt := 43) h dX2_isOf_39 rfl ?_
            exact k_zret h r dX2_isOf_43 (by decide) (lf_i hf)
      · replace hf := if_t c3 hf
        refine k_iload_n (pc' := 21) h dX2_isOf_20 rfl rfl 1 rfl ?_
        refine k_iconst (pc' := 22) h dX2_isOf_21 rfl ci_1 ?_
        refine k_icmp_eq (tgt := 38) (pc' := 25) h dX2_isOf_22 rfl rfl (fun c6 => ?_) (fun c6 => ?_)
        · replace hf := if_t c6 hf
          refine k_iconst (pc' := 39) h dX2_isOf_38 rfl ci_1 ?_
          refine k_goto (tgt := 43) h dX2_isOf_39 rfl ?_
          exact k_zret h r dX2_isOf_43 (by decide) (lf_i hf)
        · replace hf := if_f c6 hf
          refine k_aload_n (pc' := 26) h dX2_isOf_25 rfl rfl 0 rfl ?_
          refine k_get (v := .int (st.1 k 0)) (pc' := 29) h dX2_isOf_26 rfl (bC_re hka hkb) fl_X2_13 rfl ?_
          refine k_iconst (pc' := 30) h dX2_isOf_29 rfl ci_5 ?_
          refine k_icmp_ne (tgt := 42) (pc' := 33) h dX2_isOf_30 rfl rfl (fun c7 => ?_) (fun c7 => ?_)
          · replace hf := if_f c7 hf
            refine k_iconst (pc' := 43) h dX2_isOf_42 rfl ci_0 ?_
            exact k_zret h r dX2_isOf_43 (by decide) (lf_i hf)
          · replace hf := if_t c7 hf
            refine k_iload_n (pc' := 34) h dX2_isOf_33 rfl rfl 1 rfl ?_
            refine k_iconst (pc' := 35) h dX2_isOf_34 rfl ci_2 ?_
            refine k_icmp_ne (tgt := 42) (pc' := 38) h dX2_isOf_35 rfl rfl (fun c8 => ?_) (fun c8 => ?_)
            · replace hf := if_f c8 hf
              refine k_iconst (pc' := 43) h dX2_isOf_42 rfl ci_0 ?_
              exact k_zret h r dX2_isOf_43 (by decide) (lf_i hf)
            · replace hf := if_t c8 hf
              refine k_iconst (pc' := 39) h dX2_isOf_38 rfl ci_1 ?_
              refine k_goto (tgt := 43) h dX2_isOf_39 rfl ?_
              exact k_zret h r dX2_isOf_43 (by decide) (lf_i hf)
noncomputable def f_X2_isKnown (k : Nat) (st : St) : Option (Int32 × St) :=
  (if (st.1 k 6) < (2 : Int32) then (some ((0 : Int32), st)) else (some ((1 : Int32), st)))
set_option maxHeartbeats 4000000 in
theorem c_X2_isKnown {G : GG} (l : Launch) (k : Nat) (st : St) (hka : 17 ≤ k) (hkb : k < 23) (rr : Int32) (st' : St) (hf : f_X2_isKnown k st = some (rr, st')) : MM l yX2_isKnown cX2_isKnown 1 (some .boolean) 0 (oC G) [.ref (al (oC G) k)] st (some (.int rr)) st' := by
  refine mk_MM (by decide +kernel) (Nat.le_of_ble_eq_true rfl) (fun X h r => ?_)
  refine k_sub (lv' := [(0, .ref (al (oC G) k))]) [0] rfl ?_
  unfold f_X2_isKnown at hf
  refine k_aload_n (pc' := 1) h dX2_isKnown_0 rfl rfl 0 rfl ?_
  refine k_get (v := .int (st.1 k 6)) (pc' := 4) h dX2_isKnown_1 rfl (bC_re hka hkb) fl_X2_34 rfl ?_
  refine k_iconst (pc' := 5) h dX2_isKnown_4 rfl ci_2 ?_
  refine k_icmp_lt (tgt := 12) (pc' := 8) h dX2_isKnown_5 rfl rfl (fun c1 => ?_) (fun c1 => ?_)
  · replace hf := if_t c1 hf
    refine k_iconst (pc' := 13) h dX2_isKnown_12 rfl ci_0 ?_
    exact k_zret h r dX2_isKnown_13 (by decide) (lf_i hf)
  · replace hf := if_f c1 hf
    refine k_iconst (pc' := 9) h dX2_isKnown_8 rfl ci_1 ?_
    refine k_goto (tgt := 13) h dX2_isKnown_9 rfl ?_
    exact k_zret h r dX2_isKnown_13 (by decide) (lf_i hf)
noncomputable def f_X2_askingSeconds (k : Nat) (st : St) : Option (Int32 × St) :=
  ((f_X2_isKnown k st).bind (fun q1 => (if q1.1 = 0 then (some ((40 : Int32), q1.2)) else (some ((30 : Int32), q1.2)))))
set_option maxHeartbeats 4000000 in
theorem c_X2_askingSeconds {G : GG} (l : Launch) (k : Nat) (st : St) (hka : 17 ≤ k) (hkb : k < 23) (rr : Int32) (st' : St) (hf : f_X2_askingSeconds k st = some (rr, st')) : MM l yX2_askingSeconds cX2_askingSeconds 1 (some .int) 1 (oC G) [.ref (al (oC G) k)] st (some (.int rr)) st' := by
  refine mk_MM (by decide +kernel) (Nat.le_of_ble_eq_true rfl) (fun X h r => ?_)
  refine k_sub (lv' := [(0, .ref (al (oC G) k))]) [0] rfl ?_
  unfold f_X2_askingSeconds at hf
  refine k_aload_n (pc' := 1) h dX2_askingSeconds_0 rfl rfl 0 rfl ?_
  obtain ⟨q1, hq1, hf⟩ := bd_s hf
  refine k_callV (As := []) (rest := []) (rv := some (.int q1.1)) (st' := q1.2) (stk' := [.int q1.1]) (pc' := 4) h dX2_askingSeconds_1 rfl ml_X2_45 wc_X2_isKnown wi_X2_isKnown ⟨Nat.le_of_ble_eq_true rfl, Nat.le_of_ble_eq_true rfl⟩ (bC_re hka hkb) rfl rfl rfl rfl (Nat.le_of_ble_eq_true rfl) (fun l => c_X2_isKnown l k st hka hkb _ _ hq1) rfl ?_
  refine k_if_eq (tgt := 12) (pc' := 7) h dX2_askingSeconds_4 rfl rfl (fun c2 => ?_) (fun c2 => ?_)
  · replace hf := if_t c2 hf
    refine k_bipush (pc' := 14) h dX2_askingSeconds_12 rfl cb_40 ?_
    exact k_iret h r dX2_askingSeconds_14 (lf_i hf)
  · replace hf := if_f c2 hf
    refine k_bipush (pc' := 9) h dX2_askingSeconds_7 rfl cb_30 ?_
    refine k_goto (tgt := 14) h dX2_askingSeconds_9 rfl ?_
    exact k_iret h r dX2_askingSeconds_14 (lf_i hf)
noncomputable def f_X2_wrongSeconds (k : Nat) (st : St) : Option (Int32 × St) :=
  ((f_X2_askingSeconds k st).bind (fun q1 => ((f_X2_isOf k (3 : Int32) q1.2).bind (fun q2 => (if q2.1 = 0 then (some (((9 : Int32) + q1.1) + (10 : Int32), q2.2)) else (some (((9 : Int32) + q1.1) + (20 : Int32), q2.2)))))))
set_option maxHeartbeats 4000000 in
theorem c_X2_wrongSeconds {G : GG} (l : Launch) (k : Nat) (st : St) (hka : 17 ≤ k) (hkb : k < 23) (rr : Int32) (st' : St) (hf : f_X2_wrongSeconds k st = some (rr, st')) : MM l yX2_wrongSeconds cX2_wrongSeconds 1 (some .int) 2 (oC G) [.ref (al (oC G) k)] st (some (.int rr)) st' := by
  refine mk_MM (by decide +kernel) (Nat.le_of_ble_eq_true rfl) (fun X h r => ?_)
  refine k_sub (lv' := [(0, .ref (al (oC G) k))]) [0] rfl ?_
  unfold f_X2_wrongSeconds at hf
  refine k_bipush (pc' := 2) h dX2_wrongSeconds_0 rfl cb_9 ?_
  refine k_aload_n (pc' := 3) h dX2_wrongSeconds_2 rfl rfl 0 rfl ?_
  obtain ⟨q1, hq1, hf⟩ := bd_s hf
  refine k_callV (As := []) (rest := [.int (9 : Int32)]) (rv := some (.int q1.1)) (st' := q1.2) (stk' := [.int q1.1, .int (9 : Int32)]) (pc' := 6) h dX2_wrongSeconds_3 rfl ml_X2_49 wc_X2_askingSeconds wi_X2_askingSeconds ⟨Nat.le_of_ble_eq_true rfl, Nat.le_of_ble_eq_true rfl⟩ (bC_re hka hkb) rfl rfl rfl rfl (Nat.le_of_ble_eq_true rfl) (fun l => c_X2_askingSeconds l k st hka hkb _ _ hq1) rfl ?_
  refine k_iadd (pc' := 7) h dX2_wrongSeconds_6 rfl ?_
  refine k_aload_n (pc' := 8) h dX2_wrongSeconds_7 rfl rfl 0 rfl ?_
  refine k_iconst (pc' := 9) h dX2_wrongSeconds_8 rfl ci_3 ?_
  obtain ⟨q2, hq2, hf⟩ := bd_s hf
  refine k_callV (As := [.int (3 : Int32)]) (rest := [.int ((9 : Int32) + q1.1)]) (rv := some (.int q2.1)) (st' := q2.2) (stk' := [.int q2.1, .int ((9 : Int32) + q1.1)]) (pc' := 12) h dX2_wrongSeconds_9 rfl ml_X2_41 wc_X2_isOf wi_X2_isOf ⟨Nat.le_of_ble_eq_true rfl, Nat.le_of_ble_eq_true rfl⟩ (bC_re hka hkb) rfl rfl rfl rfl (Nat.le_of_ble_eq_true rfl) (fun l => c_X2_isOf l k (3 : Int32) q1.2 hka hkb _ _ hq2) rfl ?_
  refine k_if_eq (tgt := 20) (pc' := 15) h dX2_wrongSeconds_12 rfl rfl (fun c3 => ?_) (fun c3 => ?_)
  · replace hf := if_t c3 hf
    refine k_bipush (pc' := 22) h dX2_wrongSeconds_20 rfl cb_10 ?_
    refine k_iadd (pc' := 23) h dX2_wrongSeconds_22 rfl ?_
    exact k_iret h r dX2_wrongSeconds_23 (lf_i hf)
  · replace hf := if_f c3 hf
    refine k_bipush (pc' := 17) h dX2_wrongSeconds_15 rfl cb_20 ?_
    refine k_goto (tgt := 22) h dX2_wrongSeconds_17 rfl ?_
    refine k_iadd (pc' := 23) h dX2_wrongSeconds_22 rfl ?_
    exact k_iret h r dX2_wrongSeconds_23 (lf_i hf)
noncomputable def f_X2_secondsFor (k : Nat) (x0 : Int32) (x1 : Int32) (st : St) : Option (Int32 × St) :=
  (if x0 = (-9 : Int32) then ((f_X2_askingSeconds k st).bind (fun q7 => (some (q7.1, q7.2)))) else ((f_X2_wantOn k x1 st).bind (fun q2 => (if x0 = q2.1 then (some ((9 : Int32), q2.2)) else ((f_X2_isOf k (1 : Int32) q2.2).bind (fun q4 => (if q4.1 = 0 then ((f_X2_wrongSeconds k q4.2).bind (fun q6 => (some (q6.1, q6.2)))) else (some ((9 : Int32), q4.2)))))))))
set_option maxHeartbeats 4000000 in
theorem c_X2_secondsFor {G : GG} (l : Launch) (k : Nat) (x0 : Int32) (x1 : Int32) (st : St) (hka : 17 ≤ k) (hkb : k < 23) (rr : Int32) (st' : St) (hf : f_X2_secondsFor k x0 x1 st = some (rr, st')) : MM l yX2_secondsFor cX2_secondsFor 3 (some .int) 3 (oC G) [.ref (al (oC G) k), .int x0, .int x1] st (some (.int rr)) st' := by
  refine mk_MM (by decide +kernel) (Nat.le_of_ble_eq_true rfl) (fun X h r => ?_)
  refine k_sub (lv' := [(0, .ref (al (oC G) k)), (1, .int x0), (2, .int x1)]) [0, 1, 2] rfl ?_
  unfold f_X2_secondsFor at hf
  refine k_iload_n (pc' := 1) h dX2_secondsFor_0 rfl rfl 1 rfl ?_
  refine k_bipush (pc' := 3) h dX2_secondsFor_1 rfl cb_m9 ?_
  refine k_icmp_ne (tgt := 11) (pc' := 6) h dX2_secondsFor_3 rfl rfl (fun c1 => ?_) (fun c1 => ?_)
  · replace hf := if_f c1 hf
    refine k_iload_n (pc' := 12) h dX2_secondsFor_11 rfl rfl 1 rfl ?_
    refine k_aload_n (pc' := 13) h dX2_secondsFor_12 rfl rfl 0 rfl ?_
    refine k_iload_n (pc' := 14) h dX2_secondsFor_13 rfl rfl 2 rfl ?_
    obtain ⟨q2, hq2, hf⟩ := bd_s hf
    refine k_callV (As := [.int x1]) (rest := [.int x0]) (rv := some (.int q2.1)) (st' := q2.2) (stk' := [.int q2.1, .int x0]) (pc' := 17) h dX2_secondsFor_14 rfl ml_X2_53 wc_X2_wantOn wi_X2_wantOn ⟨Nat.le_of_ble_eq_true rfl, Nat.le_of_ble_eq_true rfl⟩ (bC_re hka hkb) rfl rfl rfl rfl (Nat.le_of_ble_eq_true rfl) (fun l => c_X2_wantOn l k x1 st hka hkb _ _ hq2) rfl ?_
    refine k_icmp_eq (tgt := 28) (pc' := 20) h dX2_secondsFor_17 rfl rfl (fun c3 => ?_) (fun c3 => ?_)
    · replace hf := if_t c3 hf
      refine k_bipush (pc' := 30) h dX2_secondsFor_28 rfl cb_9 ?_
      refine k_goto (tgt := 37) h dX2_secondsFor_30 rfl ?_
      exact k_iret h r dX2_secondsFor_37 (lf_i hf)
    · replace hf := if_f c3 hf
      refine k_aload_n (pc' := 21) h dX2_secondsFor_20 rfl rfl 0 rfl ?_
      refine k_iconst (pc' := 22) h dX2_secondsFor_21 rfl ci_1 ?_
      obtain ⟨q4, hq4, hf⟩ := bd_s hf
      refine k_callV (As := [.int (1 : Int32)]) (rest := []) (rv := some (.int q4.1)) (st' := q4.2) (stk' := [.int q4.1]) (pc' := 25) h dX2_secondsFor_22 rfl ml_X2_41 wc_X2_isOf wi_X2_isOf ⟨Nat.le_of_ble_eq_true rfl, Nat.le_of_ble_eq_true rfl⟩ (bC_re hka hkb) rfl rfl rfl rfl (Nat.le_of_ble_eq_true rfl) (fun l => c_X2_isOf l k (1 : Int32) q2.2 hka hkb _ _ hq4) rfl ?_
      refine k_if_eq (tgt := 33) (pc' := 28) h dX2_secondsFor_25 rfl rfl (fun c5 => ?_) (fun c5 => ?_)
      · replace hf := if_t c5 hf
        refine k_aload_n (pc' := 34) h dX2_secondsFor_33 rfl rfl 0 rfl ?_
        obtain ⟨q6, hq6, hf⟩ := bd_s hf
        refine k_callV (As := []) (rest := []) (rv := some (.int q6.1)) (st' := q6.2) (stk' := [.int q6.1]) (pc' := 37) h dX2_secondsFor_34 rfl ml_X2_56 wc_X2_wrongSeconds wi_X2_wrongSeconds ⟨Nat.le_of_ble_eq_true rfl, Nat.le_of_ble_eq_true rfl⟩ (bC_re hka hkb) rfl rfl rfl rfl (Nat.le_of_ble_eq_true rfl) (fun l => c_X2_wrongSeconds l k q4.2 hka hkb _ _ hq6) rfl ?_
        exact k_iret h r dX2_secondsFor_37 (lf_i hf)
      · replace hf := if_f c5 hf
        refine k_bipush (pc' := 30) h dX2_secondsFor_28 rfl cb_9 ?_
        refine k_goto (tgt := 37) h dX2_secondsFor_30 rfl ?_
        exact k_iret h r dX2_secondsFor_37 (lf_i hf)
  · replace hf := if_t c1 hf
    refine k_aload_n (pc' := 7) h dX2_secondsFor_6 rfl rfl 0 rfl ?_
    obtain ⟨q7, hq7, hf⟩ := bd_s hf
    refine k_callV (As := []) (rest := []) (rv := some (.int q7.1)) (st' := q7.2) (stk' := [.int q7.1]) (pc' := 10) h dX2_secondsFor_7 rfl ml_X2_49 wc_X2_askingSeconds wi_X2_askingSeconds ⟨Nat.le_of_ble_eq_true rfl, Nat.le_of_ble_eq_true rfl⟩ (bC_re hka hkb) rfl rfl rfl rfl (Nat.le_of_ble_eq_true rfl) (fun l => c_X2_askingSeconds l k st hka hkb _ _ hq7) rfl ?_
    exact k_iret h r dX2_secondsFor_10 (lf_i hf)
noncomputable def f_X2_isSouredBy (k : Nat) (x0 : Int32) (x1 : Int32) (st : St) : Option (Int32 × St) :=
  ((f_X2_isOf k (1 : Int32) st).bind (fun q1 => (if q1.1 = 0 then (some ((0 : Int32), q1.2)) else (if x0 = (-9 : Int32) then (some ((0 : Int32), q1.2)) else ((f_X2_wantOn k x1 q1.2).bind (fun q4 => (if x0 = q4.1 then (some ((0 : Int32), q4.2)) else (some ((1 : Int32), q4.2)))))))))
set_option maxHeartbeats 4000000 in
theorem c_X2_isSouredBy {G : GG} (l : Launch) (k : Nat) (x0 : Int32) (x1 : Int32) (st : St) (hka : 17 ≤ k) (hkb : k < 23) (rr : Int32) (st' : St) (hf : f_X2_isSouredBy k x0 x1 st = some (rr, st')) : MM l yX2_isSouredBy cX2_isSouredBy 3 (some .boolean) 2 (oC G) [.ref (al (oC G) k), .int x0, .int x1] st (some (.int rr)) st' := by
  refine mk_MM (by decide +kernel) (Nat.le_of_ble_eq_true rfl) (fun X h r => ?_)
  refine k_sub (lv' := [(0, .ref (al (oC G) k)), (1, .int x0), (2, .int x1)]) [0, 1, 2] rfl ?_
  unfold f_X2_isSouredBy at hf
  refine k_aload_n (pc' := 1) h dX2_isSouredBy_0 rfl rfl 0 rfl ?_
  refine k_iconst (pc' := 2) h dX2_isSouredBy_1 rfl ci_1 ?_
  obtain ⟨q1, hq1, hf⟩ := bd_s hf
  refine k_callV (As := [.int (1 : Int32)]) (rest := []) (rv := some (.int q1.1)) (st' := q1.2) (stk' := [.int q1.1]) (pc' := 5) h dX2_isSouredBy_2 rfl ml_X2_41 wc_X2_isOf wi_X2_isOf ⟨Nat.le_of_ble_eq_true rfl, Nat.le_of_ble_eq_true rfl⟩ (bC_re hka hkb) rfl rfl rfl rfl (Nat.le_of_ble_eq_true rfl) (fun l => c_X2_isOf l k (1 : Int32) st hka hkb _ _ hq1) rfl ?_
  refine k_if_eq (tgt := 27) (pc' := 8) h dX2_isSouredBy_5 rfl rfl (fun c2 => ?_) (fun c2 => ?_)
  · replace hf := if_t c2 hf
    refine k_iconst (pc' := 28) h dX2_isSouredBy_27 rfl ci_0 ?_
    exact k_zret h r dX2_isSouredBy_28 (by decide) (lf_i hf)
  · replace hf := if_f c2 hf
    refine k_iload_n (pc' := 9) h dX2_isSouredBy_8 rfl rfl 1 rfl ?_
    refine k_bipush (pc' := 11) h dX2_isSouredBy_9 rfl cb_m9 ?_
    refine k_icmp_eq (tgt := 27) (pc' := 14) h dX2_isSouredBy_11 rfl rfl (fun c3 => ?_) (fun c3 => ?_)
    · replace hf := if_t c3 hf
      refine k_iconst (pc' := 28) h dX2_isSouredBy_27 rfl ci_0 ?_
      exact k_zret h r dX2_isSouredBy_28 (by decide) (lf_i hf)
    · replace hf := if_f c3 hf
      refine k_iload_n (pc' := 15) h dX2_isSouredBy_14 rfl rfl 1 rfl ?_
      refine k_aload_n (pc' := 16) h dX2_isSouredBy_15 rfl rfl 0 rfl ?_
      refine k_iload_n (pc' := 17) h dX2_isSouredBy_16 rfl rfl 2 rfl ?_
      obtain ⟨q4, hq4, hf⟩ := bd_s hf
      refine k_callV (As := [.int x1]) (rest := [.int x0]) (rv := some (.int q4.1)) (st' := q4.2) (stk' := [.int q4.1, .int x0]) (pc' := 20) h dX2_isSouredBy_17 rfl ml_X2_53 wc_X2_wantOn wi_X2_wantOn ⟨Nat.le_of_ble_eq_true rfl, Nat.le_of_ble_eq_true rfl⟩ (bC_re hka hkb) rfl rfl rfl rfl (Nat.le_of_ble_eq_true rfl) (fun l => c_X2_wantOn l k x1 q1.2 hka hkb _ _ hq4) rfl ?_
      refine k_icmp_eq (tgt := 27) (pc' := 23) h dX2_isSouredBy_20 rfl rfl (fun c5 => ?_) (fun c5 => ?_)
      · replace hf := if_t c5 hf
        refine k_iconst (pc' := 28) h dX2_isSouredBy_27 rfl ci_0 ?_
        exact k_zret h r dX2_isSouredBy_28 (by decide) (lf_i hf)
      · replace hf := if_f c5 hf
        refine k_iconst (pc' := 24) h dX2_isSouredBy_23 rfl ci_1 ?_
        refine k_goto (tgt := 28) h dX2_isSouredBy_24 rfl ?_
        exact k_zret h r dX2_isSouredBy_28 (by decide) (lf_i hf)
noncomputable def f_X3_happen (x0 : Int32) (x1 : Int32) (st : St) : Option (Int32 × St) :=
  (if x0 < 0 then (ls (sA st 15 (upd (st.1 15) 3 ((st.1 15 3) + (1 : Int32)))) (fun s2 => (ls (sA s2 15 (upd (s2.1 15) 4 (0 : Int32))) (fun s3 => (some ((0 : Int32), s3)))))) else (if x0 < (st.1 15 2) then (gd (inb x0 6) ((f_X2_secondsFor (17 + x0.toNatClampNeg) x1 (st.1 15 3) st).bind (fun q6 => ((f_X2_isSouredBy (17 + x0.toNatClampNeg) x1 (q6.2.1 15 3) q6.2).bind (fun q7 => (if q7.1 = 0 then (ls (sA q7.2 (17 + x0.toNatClampNeg) (upd (q7.2.1 (17 + x0.toNatClampNeg)) 6 ((q7.2.1 (17 + x0.toNatClampNeg) 6) + (1 : Int32)))) (fun s9 => (ls (sA s9 15 (upd (s9.1 15) 4 ((s9.1 15 4) + q6.1))) (fun s10 => (some (q6.1, s10)))))) else (ls (sA q7.2 (17 + x0.toNatClampNeg) (upd (q7.2.1 (17 + x0.toNatClampNeg)) 7 ((q7.2.1 (17 + x0.toNatClampNeg) 7) + (1 : Int32)))) (fun s11 => (ls (sA s11 (17 + x0.toNatClampNeg) (upd (s11.1 (17 + x0.toNatClampNeg)) 6 ((s11.1 (17 + x0.toNatClampNeg) 6) + (1 : Int32)))) (fun s12 => (ls (sA s12 15 (upd (s12.1 15) 4 ((s12.1 15 4) + q6.1))) (fun s13 => (some (q6.1, s13)))))))))))))) else (ls (sA st 15 (upd (st.1 15) 3 ((st.1 15 3) + (1 : Int32)))) (fun s14 => (ls (sA s14 15 (upd (s14.1 15) 4 (0 : Int32))) (fun s15 => (some ((0 : Int32), s15))))))))
set_option maxHeartbeats 4000000 in
theorem c_X3_happen {G : GG} (l : Launch) (x0 : Int32) (x1 : Int32) (st : St)  (rr : Int32) (st' : St) (hf : f_X3_happen x0 x1 st = some (rr, st')) : MM l yX3_happen cX3_happen 5 (some .int) 4 (oC G) [.ref (al (oC G) 15), .int x0, .int x1] st (some (.int rr)) st' := by
  refine mk_MM (by decide +kernel) (Nat.le_of_ble_eq_true rfl) (fun X h r => ?_)
  refine k_sub (lv' := [(0, .ref (al (oC G) 15)), (1, .int x0), (2, .int x1)]) [0, 1, 2] rfl ?_
  unfold f_X3_happen at hf
  refine k_iload_n (pc' := 1) h dX3_happen_0 rfl rfl 1 rfl ?_
  refine k_if_lt (tgt := 12) (pc' := 4) h dX3_happen_1 rfl rfl (fun c1 => ?_) (fun c1 => ?_)
  · replace hf := if_t c1 hf
    refine k_aload_n (pc' := 13) h dX3_happen_12 rfl rfl 0 rfl ?_
    refine k_dup (pc' := 14) h dX3_happen_13 rfl rfl ?_
    refine k_get (v := .int (st.1 15 3)) (pc' := 17) h dX3_happen_14 rfl bC_sh fl_X3_37 rfl ?_
    refine k_iconst (pc' := 18) h dX3_happen_17 rfl ci_1 ?_
    refine k_iadd (pc' := 19) h dX3_happen_18 rfl ?_
    refine k_put (pc' := 22) h dX3_happen_19 rfl bC_sh fp_X3_37 sf_sh_3 sj_sh_3 ?_
    obtain ⟨s2, hs2, hf⟩ := ls_s hf
    refine k_st hs2 ?_
    refine k_aload_n (pc' := 23) h dX3_happen_22 rfl rfl 0 rfl ?_
    refine k_iconst (pc' := 24) h dX3_happen_23 rfl ci_0 ?_
    refine k_put (pc' := 27) h dX3_happen_24 rfl bC_sh fp_X3_40 sf_sh_4 sj_sh_4 ?_
    obtain ⟨s3, hs3, hf⟩ := ls_s hf
    refine k_st hs3 ?_
    refine k_iconst (pc' := 28) h dX3_happen_27 rfl ci_0 ?_
    exact k_iret h r dX3_happen_28 (lf_i hf)
  · replace hf := if_f c1 hf
    refine k_iload_n (pc' := 5) h dX3_happen_4 rfl rfl 1 rfl ?_
    refine k_aload_n (pc' := 6) h dX3_happen_5 rfl rfl 0 rfl ?_
    refine k_get (v := .int (st.1 15 2)) (pc' := 9) h dX3_happen_6 rfl bC_sh fl_X3_25 rfl ?_
    refine k_icmp_lt (tgt := 29) (pc' := 12) h dX3_happen_9 rfl rfl (fun c4 => ?_) (fun c4 => ?_)
    · replace hf := if_t c4 hf
      refine k_aload_n (pc' := 30) h dX3_happen_29 rfl rfl 0 rfl ?_
      refine k_get (v := .ref (al (oC G) 16)) (pc' := 33) h dX3_happen_30 rfl bC_sh fl_X3_11 rfl ?_
      refine k_iload_n (pc' := 34) h dX3_happen_33 rfl rfl 1 rfl ?_
      have g5 := gd_1 hf
      replace hf := gd_2 hf
      refine k_aald (tt := .object "TheUsual$Regular") (pc' := 35) h dX3_happen_34 rfl rC_regs rfl rfl g5 ?_
      refine k_astore_n (lv' := [(0, .ref (al (oC G) 15)), (1, .int x0), (2, .int x1), (3, .ref (al (oC G) (17 + x0.toNatClampNeg)))]) (pc' := 36) h dX3_happen_35 rfl rfl (Nat.le_of_ble_eq_true rfl) [1, 2, 3, 0] rfl ?_
      refine k_aload_n (pc' := 37) h dX3_happen_36 rfl rfl 3 rfl ?_
      refine k_iload_n (pc' := 38) h dX3_happen_37 rfl rfl 2 rfl ?_
      refine k_aload_n (pc' := 39) h dX3_happen_38 rfl rfl 0 rfl ?_
      refine k_get (v := .int (st.1 15 3)) (pc' := 42) h dX3_happen_39 rfl bC_sh fl_X3_37 rfl ?_
      obtain ⟨q6, hq6, hf⟩ := bd_s hf
      refine k_callV (As := [.int x1, .int (st.1 15 3)]) (rest := []) (rv := some (.int q6.1)) (st' := q6.2) (stk' := [.int q6.1]) (pc' := 45) h dX3_happen_42 rfl ml_X3_70 wc_X2_secondsFor wi_X2_secondsFor ⟨Nat.le_of_ble_eq_true rfl, Nat.le_of_ble_eq_true rfl⟩ (bC_re (Nat.le_add_right 17 x0.toNatClampNeg) (Nat.add_lt_add_left (inb_lt g5) 17)) rfl rfl rfl rfl (Nat.le_of_ble_eq_true rfl) (fun l => c_X2_secondsFor l (17 + x0.toNatClampNeg) x1 (st.1 15 3) st (Nat.le_add_right 17 x0.toNatClampNeg) (Nat.add_lt_add_left (inb_lt g5) 17) _ _ hq6) rfl ?_
      refine k_istore (lv' := [(0, .ref (al (oC G) 15)), (1, .int x0), (2, .int x1), (3, .ref (al (oC G) (17 + x0.toNatClampNeg))), (4, .int q6.1)]) (pc' := 47) h dX3_happen_45 rfl (Nat.le_of_ble_eq_true rfl) [1, 2, 3, 4, 0] rfl ?_
      refine k_aload_n (pc' := 48) h dX3_happen_47 rfl rfl 3 rfl ?_
      refine k_iload_n (pc' := 49) h dX3_happen_48 rfl rfl 2 rfl ?_
      refine k_aload_n (pc' := 50) h dX3_happen_49 rfl rfl 0 rfl ?_
      refine k_get (v := .int (q6.2.1 15 3)) (pc' := 53) h dX3_happen_50 rfl bC_sh fl_X3_37 rfl ?_
      obtain ⟨q7, hq7, hf⟩ := bd_s hf
      refine k_callV (As := [.int x1, .int (q6.2.1 15 3)]) (rest := []) (rv := some (.int q7.1)) (st' := q7.2) (stk' := [.int q7.1]) (pc' := 56) h dX3_happen_53 rfl ml_X3_73 wc_X2_isSouredBy wi_X2_isSouredBy ⟨Nat.le_of_ble_eq_true rfl, Nat.le_of_ble_eq_true rfl⟩ (bC_re (Nat.le_add_right 17 x0.toNatClampNeg) (Nat.add_lt_add_left (inb_lt g5) 17)) rfl rfl rfl rfl (Nat.le_of_ble_eq_true rfl) (fun l => c_X2_isSouredBy l (17 + x0.toNatClampNeg) x1 (q6.2.1 15 3) q6.2 (Nat.le_add_right 17 x0.toNatClampNeg) (Nat.add_lt_add_left (inb_lt g5) 17) _ _ hq7) rfl ?_
      refine k_if_eq (tgt := 69) (pc' := 59) h dX3_happen_56 rfl rfl (fun c8 => ?_) (fun c8 => ?_)
      · replace hf := if_t c8 hf
        refine k_aload_n (pc' := 70) h dX3_happen_69 rfl rfl 3 rfl ?_
        refine k_dup (pc' := 71) h dX3_happen_70 rfl rfl ?_
        refine k_get (v := .int (q7.2.1 (17 + x0.toNatClampNeg) 6)) (pc' := 74) h dX3_happen_71 rfl (bC_re (Nat.le_add_right 17 x0.toNatClampNeg) (Nat.add_lt_add_left (inb_lt g5) 17)) fl_X3_43 rfl ?_
        refine k_iconst (pc' := 75) h dX3_happen_74 rfl ci_1 ?_
        refine k_iadd (pc' := 76) h dX3_happen_75 rfl ?_
        refine k_put (pc' := 79) h dX3_happen_76 rfl (bC_re (Nat.le_add_right 17 x0.toNatClampNeg) (Nat.add_lt_add_left (inb_lt g5) 17)) fp_X3_43 sf_re_6 sj_re_6 ?_
        obtain ⟨s9, hs9, hf⟩ := ls_s hf
        refine k_st hs9 ?_
        refine k_aload_n (pc' := 80) h dX3_happen_79 rfl rfl 0 rfl ?_
        refine k_dup (pc' := 81) h dX3_happen_80 rfl rfl ?_
        refine k_get (v := .int (s9.1 15 4)) (pc' := 84) h dX3_happen_81 rfl bC_sh fl_X3_40 rfl ?_
        refine k_iload (pc' := 86) h dX3_happen_84 rfl 4 rfl ?_
        refine k_iadd (pc' := 87) h dX3_happen_86 rfl ?_
        refine k_put (pc' := 90) h dX3_happen_87 rfl bC_sh fp_X3_40 sf_sh_4 sj_sh_4 ?_
        obtain ⟨s10, hs10, hf⟩ := ls_s hf
        refine k_st hs10 ?_
        refine k_iload (pc' := 92) h dX3_happen_90 rfl 4 rfl ?_
        exact k_iret h r dX3_happen_92 (lf_i hf)
      · replace hf := if_f c8 hf
        refine k_aload_n (pc' := 60) h dX3_happen_59 rfl rfl 3 rfl ?_
        refine k_dup (pc' := 61) h dX3_happen_60 rfl rfl ?_
        refine k_get (v := .int (q7.2.1 (17 + x0.toNatClampNeg) 7)) (pc' := 64) h dX3_happen_61 rfl (bC_re (Nat.le_add_right 17 x0.toNatClampNeg) (Nat.add_lt_add_left (inb_lt g5) 17)) fl_X3_46 rfl ?_
        refine k_iconst (pc' := 65) h dX3_happen_64 rfl ci_1 ?_
        refine k_iadd (pc' := 66) h dX3_happen_65 rfl ?_
        refine k_put (pc' := 69) h dX3_happen_66 rfl (bC_re (Nat.le_add_right 17 x0.toNatClampNeg) (Nat.add_lt_add_left (inb_lt g5) 17)) fp_X3_46 sf_re_7 sj_re_7 ?_
        obtain ⟨s11, hs11, hf⟩ := ls_s hf
        refine k_st hs11 ?_
        refine k_aload_n (pc' := 70) h dX3_happen_69 rfl rfl 3 rfl ?_
        refine k_dup (pc' := 71) h dX3_happen_70 rfl rfl ?_
        refine k_get (v := .int (s11.1 (17 + x0.toNatClampNeg) 6)) (pc' := 74) h dX3_happen_71 rfl (bC_re (Nat.le_add_right 17 x0.toNatClampNeg) (Nat.add_lt_add_left (inb_lt g5) 17)) fl_X3_43 rfl ?_
        refine k_iconst (pc' := 75) h dX3_happen_74 rfl ci_1 ?_
        refine k_iadd (pc' := 76) h dX3_happen_75 rfl ?_
        refine k_put (pc' := 79) h dX3_happen_76 rfl (bC_re (Nat.le_add_right 17 x0.toNatClampNeg) (Nat.add_lt_add_left (inb_lt g5) 17)) fp_X3_43 sf_re_6 sj_re_6 ?_
        obtain ⟨s12, hs12, hf⟩ := ls_s hf
        refine k_st hs12 ?_
        refine k_aload_n (pc' := 80) h dX3_happen_79 rfl rfl 0 rfl ?_
        refine k_dup (pc' := 81) h dX3_happen_80 rfl rfl ?_
        refine k_get (v := .int (s12.1 15 4)) (pc' := 84) h dX3_happen_81 rfl bC_sh fl_X3_40 rfl ?_
        refine k_iload (pc' := 86) h dX3_happen_84 rfl 4 rfl ?_
        refine k_iadd (pc' := 87) h dX3_happen_86 rfl ?_
        refine k_put (pc' := 90) h dX3_happen_87 rfl bC_sh fp_X3_40 sf_sh_4 sj_sh_4 ?_
        obtain ⟨s13, hs13, hf⟩ := ls_s hf
        refine k_st hs13 ?_
        refine k_iload (pc' := 92) h dX3_happen_90 rfl 4 rfl ?_
        exact k_iret h r dX3_happen_92 (lf_i hf)
    · replace hf := if_f c4 hf
      refine k_aload_n (pc' := 13) h dX3_happen_12 rfl rfl 0 rfl ?_
      refine k_dup (pc' := 14) h dX3_happen_13 rfl rfl ?_
      refine k_get (v := .int (st.1 15 3)) (pc' := 17) h dX3_happen_14 rfl bC_sh fl_X3_37 rfl ?_
      refine k_iconst (pc' := 18) h dX3_happen_17 rfl ci_1 ?_
      refine k_iadd (pc' := 19) h dX3_happen_18 rfl ?_
      refine k_put (pc' := 22) h dX3_happen_19 rfl bC_sh fp_X3_37 sf_sh_3 sj_sh_3 ?_
      obtain ⟨s14, hs14, hf⟩ := ls_s hf
      refine k_st hs14 ?_
      refine k_aload_n (pc' := 23) h dX3_happen_22 rfl rfl 0 rfl ?_
      refine k_iconst (pc' := 24) h dX3_happen_23 rfl ci_0 ?_
      refine k_put (pc' := 27) h dX3_happen_24 rfl bC_sh fp_X3_40 sf_sh_4 sj_sh_4 ?_
      obtain ⟨s15, hs15, hf⟩ := ls_s hf
      refine k_st hs15 ?_
      refine k_iconst (pc' := 28) h dX3_happen_27 rfl ci_0 ?_
      exact k_iret h r dX3_happen_28 (lf_i hf)
noncomputable def l_X3_goThrough_12 (p1 : Int32) (v2 : Int32) (st : St) : Option ((Int32 × St) ⊕ (Int32 × St)) :=
  (if (st.1 15 2) ≤ v2 then (some (.inr (v2, st))) else (gd (inb v2 6) (ls (sA st (17 + v2.toNatClampNeg) (upd (st.1 (17 + v2.toNatClampNeg)) 6 (0 : Int32))) (fun s5 => (gd (inb v2 6) (ls (sA s5 (17 + v2.toNatClampNeg) (upd (s5.1 (17 + v2.toNatClampNeg)) 7 (0 : Int32))) (fun s7 => (some (.inl (v2 + (1 : Int32), s7))))))))))
set_option maxHeartbeats 4000000 in
theorem w_X3_goThrough_12 {G : GG} {X : Cx} (h : Ok X (oC G) cX3_goThrough RX3 3 (RM 5))  (p1 : Int32)  (n : Nat) (v2 : Int32) (st : St) (q : Int32 × St) (hq : iter (fun v : Int32 × St => l_X3_goThrough_12 p1 v.1 v.2) n (v2, st) = some q) (kx : Wk X (oC G) 3 q.2 46 [(0, .ref (al (oC G) 15)), (1, .int p1), (2, .int q.1)] []) : Wk X (oC G) 3 st 12 [(0, .ref (al (oC G) 15)), (1, .int p1), (2, .int v2)] [] := by
  refine iter_rule (hd := (fun v : Int32 × St => Wk X (oC G) 3 v.2 12 [(0, .ref (al (oC G) 15)), (1, .int p1), (2, .int v.1)] [])) (ex := (fun v : Int32 × St => Wk X (oC G) 3 v.2 46 [(0, .ref (al (oC G) 15)), (1, .int p1), (2, .int v.1)] [])) ?_ n (v2, st) q hq kx
  rintro ⟨v2, st⟩ oo hbv K
  show Wk X (oC G) 3 st 12 [(0, .ref (al (oC G) 15)), (1, .int p1), (2, .int v2)] []
  have hf : l_X3_goThrough_12 p1 v2 st = some oo := hbv
  unfold l_X3_goThrough_12 at hf
  refine k_iload_n (pc' := 13) h dX3_goThrough_12 rfl rfl 2 rfl ?_
  refine k_aload_n (pc' := 14) h dX3_goThrough_13 rfl rfl 0 rfl ?_
  refine k_get (v := .int (st.1 15 2)) (pc' := 17) h dX3_goThrough_14 rfl bC_sh fl_X3_25 rfl ?_
  refine k_icmp_ge (tgt := 46) (pc' := 20) h dX3_goThrough_17 rfl rfl (fun c3 => ?_) (fun c3 => ?_)
  · replace hf := if_t c3 hf
    refine k_sub (lv' := [(0, .ref (al (oC G) 15)), (1, .int p1), (2, .int v2)]) [0, 1, 2] rfl ?_
    exact lp_o hf K
  · replace hf := if_f c3 hf
    refine k_aload_n (pc' := 21) h dX3_goThrough_20 rfl rfl 0 rfl ?_
    refine k_get (v := .ref (al (oC G) 16)) (pc' := 24) h dX3_goThrough_21 rfl bC_sh fl_X3_11 rfl ?_
    refine k_iload_n (pc' := 25) h dX3_goThrough_24 rfl rfl 2 rfl ?_
    have g4 := gd_1 hf
    replace hf := gd_2 hf
    refine k_aald (tt := .object "TheUsual$Regular") (pc' := 26) h dX3_goThrough_25 rfl rC_regs rfl rfl g4 ?_
    refine k_iconst (pc' := 27) h dX3_goThrough_26 rfl ci_0 ?_
    refine k_put (pc' := 30) h dX3_goThrough_27 rfl (bC_re (Nat.le_add_right 17 v2.toNatClampNeg) (Nat.add_lt_add_left (inb_lt g4) 17)) fp_X3_43 sf_re_6 sj_re_6 ?_
    obtain ⟨s5, hs5, hf⟩ := ls_s hf
    refine k_st hs5 ?_
    refine k_aload_n (pc' := 31) h dX3_goThrough_30 rfl rfl 0 rfl ?_
    refine k_get (v := .ref (al (oC G) 16)) (pc' := 34) h dX3_goThrough_31 rfl bC_sh fl_X3_11 rfl ?_
    refine k_iload_n (pc' := 35) h dX3_goThrough_34 rfl rfl 2 rfl ?_
    have g6 := gd_1 hf
    replace hf := gd_2 hf
    refine k_aald (tt := .object "TheUsual$Regular") (pc' := 36) h dX3_goThrough_35 rfl rC_regs rfl rfl g6 ?_
    refine k_iconst (pc' := 37) h dX3_goThrough_36 rfl ci_0 ?_
    refine k_put (pc' := 40) h dX3_goThrough_37 rfl (bC_re (Nat.le_add_right 17 v2.toNatClampNeg) (Nat.add_lt_add_left (inb_lt g6) 17)) fp_X3_46 sf_re_7 sj_re_7 ?_
    obtain ⟨s7, hs7, hf⟩ := ls_s hf
    refine k_st hs7 ?_
    refine k_iinc (lv' := [(0, .ref (al (oC G) 15)), (1, .int p1), (2, .int (v2 + (1 : Int32)))]) (pc' := 43) h dX3_goThrough_40 rfl 2 rfl (congrArg (fun z => v2 + z) ci_1) (Nat.le_of_ble_eq_true rfl) [1, 2, 0] rfl ?_
    refine k_goto (tgt := 12) h dX3_goThrough_43 rfl ?_
    refine k_sub (lv' := [(0, .ref (al (oC G) 15)), (1, .int p1), (2, .int (v2 + (1 : Int32)))]) [0, 1, 2] rfl ?_
    exact lp_o hf K
noncomputable def l_X3_goThrough_66 (p1 : Int32) (v2 : Int32) (st : St) : Option ((Int32 × St) ⊕ (Int32 × St)) :=
  (if (st.1 33 2) ≤ v2 then (some (.inr (v2, st))) else (gd (inb v2 60) (gd (inb v2 60) ((f_X3_happen (st.1 37 v2.toNatClampNeg) (st.1 41 v2.toNatClampNeg) st).bind (fun q13 => (some (.inl (v2 + (1 : Int32), q13.2))))))))
set_option maxHeartbeats 4000000 in
theorem w_X3_goThrough_66 {G : GG} {X : Cx} (h : Ok X (oC G) cX3_goThrough RX3 3 (RM 5))  (p1 : Int32)  (n : Nat) (v2 : Int32) (st : St) (q : Int32 × St) (hq : iter (fun v : Int32 × St => l_X3_goThrough_66 p1 v.1 v.2) n (v2, st) = some q) (kx : Wk X (oC G) 3 q.2 106 [(0, .ref (al (oC G) 15)), (1, .int p1), (2, .int q.1)] []) : Wk X (oC G) 3 st 66 [(0, .ref (al (oC G) 15)), (1, .int p1), (2, .int v2)] [] := by
  refine iter_rule (hd := (fun v : Int32 × St => Wk X (oC G) 3 v.2 66 [(0, .ref (al (oC G) 15)), (1, .int p1), (2, .int v.1)] [])) (ex := (fun v : Int32 × St => Wk X (oC G) 3 v.2 106 [(0, .ref (al (oC G) 15)), (1, .int p1), (2, .int v.1)] [])) ?_ n (v2, st) q hq kx
  rintro ⟨v2, st⟩ oo hbv K
  show Wk X (oC G) 3 st 66 [(0, .ref (al (oC G) 15)), (1, .int p1), (2, .int v2)] []
  have hf : l_X3_goThrough_66 p1 v2 st = some oo := hbv
  unfold l_X3_goThrough_66 at hf
  refine k_iload_n (pc' := 67) h dX3_goThrough_66 rfl rfl 2 rfl ?_
  refine k_aload_n (pc' := 68) h dX3_goThrough_67 rfl rfl 0 rfl ?_
  refine k_get (v := .ref (al (oC G) 33)) (pc' := 71) h dX3_goThrough_68 rfl bC_sh fl_X3_20 rfl ?_
  refine k_get (v := .int (st.1 33 2)) (pc' := 74) h dX3_goThrough_71 rfl (bC_tu (Nat.le_of_ble_eq_true rfl : 30 ≤ 33) (Nat.le_of_ble_eq_true rfl : 33 < 34)) fl_X3_49 rfl ?_
  refine k_icmp_ge (tgt := 106) (pc' := 77) h dX3_goThrough_74 rfl rfl (fun c10 => ?_) (fun c10 => ?_)
  · replace hf := if_t c10 hf
    refine k_sub (lv' := [(0, .ref (al (oC G) 15)), (1, .int p1), (2, .int v2)]) [0, 1, 2] rfl ?_
    exact lp_o hf K
  · replace hf := if_f c10 hf
    refine k_aload_n (pc' := 78) h dX3_goThrough_77 rfl rfl 0 rfl ?_
    refine k_aload_n (pc' := 79) h dX3_goThrough_78 rfl rfl 0 rfl ?_
    refine k_get (v := .ref (al (oC G) 33)) (pc' := 82) h dX3_goThrough_79 rfl bC_sh fl_X3_20 rfl ?_
    refine k_get (v := .ref (al (oC G) 37)) (pc' := 85) h dX3_goThrough_82 rfl (bC_tu (Nat.le_of_ble_eq_true rfl : 30 ≤ 33) (Nat.le_of_ble_eq_true rfl : 33 < 34)) fl_X3_56 rfl ?_
    refine k_iload_n (pc' := 86) h dX3_goThrough_85 rfl rfl 2 rfl ?_
    have g11 := gd_1 hf
    replace hf := gd_2 hf
    refine k_iald (pc' := 87) h dX3_goThrough_86 rfl (aC_wl (Nat.le_of_ble_eq_true rfl : 34 ≤ 37) (Nat.le_of_ble_eq_true rfl : 37 < 42)) g11 ?_
    refine k_aload_n (pc' := 88) h dX3_goThrough_87 rfl rfl 0 rfl ?_
    refine k_get (v := .ref (al (oC G) 33)) (pc' := 91) h dX3_goThrough_88 rfl bC_sh fl_X3_20 rfl ?_
    refine k_get (v := .ref (al (oC G) 41)) (pc' := 94) h dX3_goThrough_91 rfl (bC_tu (Nat.le_of_ble_eq_true rfl : 30 ≤ 33) (Nat.le_of_ble_eq_true rfl : 33 < 34)) fl_X3_60 rfl ?_
    refine k_iload_n (pc' := 95) h dX3_goThrough_94 rfl rfl 2 rfl ?_
    have g12 := gd_1 hf
    replace hf := gd_2 hf
    refine k_iald (pc' := 96) h dX3_goThrough_95 rfl (aC_wl (Nat.le_of_ble_eq_true rfl : 34 ≤ 41) (Nat.le_of_ble_eq_true rfl : 41 < 42)) g12 ?_
    obtain ⟨q13, hq13, hf⟩ := bd_s hf
    refine k_callV (As := [.int (st.1 37 v2.toNatClampNeg), .int (st.1 41 v2.toNatClampNeg)]) (rest := []) (rv := some (.int q13.1)) (st' := q13.2) (stk' := [.int q13.1]) (pc' := 99) h dX3_goThrough_96 rfl ml_X3_63 wc_X3_happen wi_X3_happen ⟨Nat.le_of_ble_eq_true rfl, Nat.le_of_ble_eq_true rfl⟩ bC_sh rfl rfl rfl rfl (Nat.le_of_ble_eq_true rfl) (fun l => c_X3_happen l (st.1 37 v2.toNatClampNeg) (st.1 41 v2.toNatClampNeg) st  _ _ hq13) rfl ?_
    refine k_pop (pc' := 100) h dX3_goThrough_99 rfl rfl ?_
    refine k_iinc (lv' := [(0, .ref (al (oC G) 15)), (1, .int p1), (2, .int (v2 + (1 : Int32)))]) (pc' := 103) h dX3_goThrough_100 rfl 2 rfl (congrArg (fun z => v2 + z) ci_1) (Nat.le_of_ble_eq_true rfl) [1, 2, 0] rfl ?_
    refine k_goto (tgt := 66) h dX3_goThrough_103 rfl ?_
    refine k_sub (lv' := [(0, .ref (al (oC G) 15)), (1, .int p1), (2, .int (v2 + (1 : Int32)))]) [0, 1, 2] rfl ?_
    exact lp_o hf K
noncomputable def f_X3_goThrough (x0 : Int32) (st : St) : Option (St) :=
  (ls (sA st 15 (upd (st.1 15) 3 (0 : Int32))) (fun s1 => (ls (sA s1 15 (upd (s1.1 15) 4 (0 : Int32))) (fun s2 => ((iter (fun v : Int32 × St => l_X3_goThrough_12 x0 v.1 v.2) fuel ((0 : Int32), s2)).bind (fun q8 => (ls (sA q8.2 33 (upd (q8.2.1 33) 2 (if (q8.2.1 33 2) < x0 then (q8.2.1 33 2) else x0))) (fun s9 => ((iter (fun v : Int32 × St => l_X3_goThrough_66 x0 v.1 v.2) fuel ((0 : Int32), s9)).bind (fun q14 => (some q14.2)))))))))))
set_option maxHeartbeats 4000000 in
theorem c_X3_goThrough {G : GG} (l : Launch) (x0 : Int32) (st : St)  (st' : St) (hf : f_X3_goThrough x0 st = some st') : MM l yX3_goThrough cX3_goThrough 3 none 5 (oC G) [.ref (al (oC G) 15), .int x0] st none st' := by
  refine mk_MM (by decide +kernel) (Nat.le_of_ble_eq_true rfl) (fun X h r => ?_)
  refine k_sub (lv' := [(0, .ref (al (oC G) 15)), (1, .int x0)]) [0, 1] rfl ?_
  unfold f_X3_goThrough at hf
  refine k_aload_n (pc' := 1) h dX3_goThrough_0 rfl rfl 0 rfl ?_
  refine k_iconst (pc' := 2) h dX3_goThrough_1 rfl ci_0 ?_
  refine k_put (pc' := 5) h dX3_goThrough_2 rfl bC_sh fp_X3_37 sf_sh_3 sj_sh_3 ?_
  obtain ⟨s1, hs1, hf⟩ := ls_s hf
  refine k_st hs1 ?_
  refine k_aload_n (pc' := 6) h dX3_goThrough_5 rfl rfl 0 rfl ?_
  refine k_iconst (pc' := 7) h dX3_goThrough_6 rfl ci_0 ?_
  refine k_put (pc' := 10) h dX3_goThrough_7 rfl bC_sh fp_X3_40 sf_sh_4 sj_sh_4 ?_
  obtain ⟨s2, hs2, hf⟩ := ls_s hf
  refine k_st hs2 ?_
  refine k_iconst (pc' := 11) h dX3_goThrough_10 rfl ci_0 ?_
  refine k_istore_n (lv' := [(0, .ref (al (oC G) 15)), (1, .int x0), (2, .int (0 : Int32))]) (pc' := 12) h dX3_goThrough_11 rfl rfl (Nat.le_of_ble_eq_true rfl) [1, 2, 0] rfl ?_
  obtain ⟨q8, hq8, hf⟩ := bd_s hf
  refine w_X3_goThrough_12 h x0  fuel (0 : Int32) s2 q8 hq8 ?_
  refine k_aload_n (pc' := 47) h dX3_goThrough_46 rfl rfl 0 rfl ?_
  refine k_get (v := .ref (al (oC G) 33)) (pc' := 50) h dX3_goThrough_47 rfl bC_sh fl_X3_20 rfl ?_
  refine k_iload_n (pc' := 51) h dX3_goThrough_50 rfl rfl 1 rfl ?_
  refine k_aload_n (pc' := 52) h dX3_goThrough_51 rfl rfl 0 rfl ?_
  refine k_get (v := .ref (al (oC G) 33)) (pc' := 55) h dX3_goThrough_52 rfl bC_sh fl_X3_20 rfl ?_
  refine k_get (v := .int (q8.2.1 33 2)) (pc' := 58) h dX3_goThrough_55 rfl (bC_tu (Nat.le_of_ble_eq_true rfl : 30 ≤ 33) (Nat.le_of_ble_eq_true rfl : 33 < 34)) fl_X3_49 rfl ?_
  refine k_mmin (pc' := 61) h dX3_goThrough_58 rfl ml_X3_50 w_min ⟨Nat.le_of_ble_eq_true rfl, Nat.le_of_ble_eq_true rfl⟩ ?_
  refine k_put (pc' := 64) h dX3_goThrough_61 rfl (bC_tu (Nat.le_of_ble_eq_true rfl : 30 ≤ 33) (Nat.le_of_ble_eq_true rfl : 33 < 34)) fp_X3_49 sf_tu_2 sj_tu_2 ?_
  obtain ⟨s9, hs9, hf⟩ := ls_s hf
  refine k_st hs9 ?_
  refine k_iconst (pc' := 65) h dX3_goThrough_64 rfl ci_0 ?_
  refine k_istore_n (lv' := [(0, .ref (al (oC G) 15)), (1, .int x0), (2, .int (0 : Int32))]) (pc' := 66) h dX3_goThrough_65 rfl rfl (Nat.le_of_ble_eq_true rfl) [1, 2, 0] rfl ?_
  obtain ⟨q14, hq14, hf⟩ := bd_s hf
  refine w_X3_goThrough_66 h x0  fuel (0 : Int32) s9 q14 hq14 ?_
  exact k_vret h r dX3_goThrough_106 (lf_v hf)
noncomputable def l_X0_giveTo_2 (p0 : Nat) (v2 : Int32) (st : St) : Option ((Int32 × St) ⊕ (Int32 × St)) :=
  (if (st.1 15 2) ≤ v2 then (some (.inr (v2, st))) else (gd (inb v2 6) (gd (inb v2 6) (ls (sA st (17 + v2.toNatClampNeg) (upd (st.1 (17 + v2.toNatClampNeg)) 4 (st.1 (p0 + 3) v2.toNatClampNeg))) (fun s5 => (some (.inl (v2 + (1 : Int32), s5))))))))
set_option maxHeartbeats 4000000 in
theorem w_X0_giveTo_2 {G : GG} {X : Cx} (h : Ok X (oC G) cX0_giveTo RX0 3 (RM 6))  (p0 : Nat) (hp0a : 24 ≤ p0) (hp0b : p0 < 27) (n : Nat) (v2 : Int32) (st : St) (q : Int32 × St) (hq : iter (fun v : Int32 × St => l_X0_giveTo_2 p0 v.1 v.2) n (v2, st) = some q) (kx : Wk X (oC G) 3 q.2 31 [(0, .ref (al (oC G) p0)), (1, .ref (al (oC G) 15)), (2, .int q.1)] []) : Wk X (oC G) 3 st 2 [(0, .ref (al (oC G) p0)), (1, .ref (al (oC G) 15)), (2, .int v2)] [] := by
  refine iter_rule (hd := (fun v : Int32 × St => Wk X (oC G) 3 v.2 2 [(0, .ref (al (oC G) p0)), (1, .ref (al (oC G) 15)), (2, .int v.1)] [])) (ex := (fun v : Int32 × St => Wk X (oC G) 3 v.2 31 [(0, .ref (al (oC G) p0)), (1, .ref (al (oC G) 15)), (2, .int v.1)] [])) ?_ n (v2, st) q hq kx
  rintro ⟨v2, st⟩ oo hbv K
  show Wk X (oC G) 3 st 2 [(0, .ref (al (oC G) p0)), (1, .ref (al (oC G) 15)), (2, .int v2)] []
  have hf : l_X0_giveTo_2 p0 v2 st = some oo := hbv
  unfold l_X0_giveTo_2 at hf
  refine k_iload_n (pc' := 3) h dX0_giveTo_2 rfl rfl 2 rfl ?_
  refine k_aload_n (pc' := 4) h dX0_giveTo_3 rfl rfl 1 rfl ?_
  refine k_get (v := .int (st.1 15 2)) (pc' := 7) h dX0_giveTo_4 rfl bC_sh fl_X0_22 rfl ?_
  refine k_icmp_ge (tgt := 31) (pc' := 10) h dX0_giveTo_7 rfl rfl (fun c1 => ?_) (fun c1 => ?_)
  · replace hf := if_t c1 hf
    refine k_sub (lv' := [(0, .ref (al (oC G) p0)), (1, .ref (al (oC G) 15)), (2, .int v2)]) [0, 1, 2] rfl ?_
    exact lp_o hf K
  · replace hf := if_f c1 hf
    refine k_aload_n (pc' := 11) h dX0_giveTo_10 rfl rfl 1 rfl ?_
    refine k_get (v := .ref (al (oC G) 16)) (pc' := 14) h dX0_giveTo_11 rfl bC_sh fl_X0_28 rfl ?_
    refine k_iload_n (pc' := 15) h dX0_giveTo_14 rfl rfl 2 rfl ?_
    have g2 := gd_1 hf
    replace hf := gd_2 hf
    refine k_aald (tt := .object "TheUsual$Regular") (pc' := 16) h dX0_giveTo_15 rfl rC_regs rfl rfl g2 ?_
    refine k_aload_n (pc' := 17) h dX0_giveTo_16 rfl rfl 0 rfl ?_
    have z3a : 27 ≤ p0 + 3 := by have := hp0a; omega
    have z3b : p0 + 3 < 30 := by have := hp0b; omega
    refine k_get (v := .ref (al (oC G) (p0 + 3))) (pc' := 20) h dX0_giveTo_17 rfl (bC_ke hp0a hp0b) fl_X0_9 rfl ?_
    refine k_iload_n (pc' := 21) h dX0_giveTo_20 rfl rfl 2 rfl ?_
    have g4 := gd_1 hf
    replace hf := gd_2 hf
    refine k_iald (pc' := 22) h dX0_giveTo_21 rfl (aC_oth z3a z3b) g4 ?_
    refine k_put (pc' := 25) h dX0_giveTo_22 rfl (bC_re (Nat.le_add_right 17 v2.toNatClampNeg) (Nat.add_lt_add_left (inb_lt g2) 17)) fp_X0_32 sf_re_4 sj_re_4 ?_
    obtain ⟨s5, hs5, hf⟩ := ls_s hf
    refine k_st hs5 ?_
    refine k_iinc (lv' := [(0, .ref (al (oC G) p0)), (1, .ref (al (oC G) 15)), (2, .int (v2 + (1 : Int32)))]) (pc' := 28) h dX0_giveTo_25 rfl 2 rfl (congrArg (fun z => v2 + z) ci_1) (Nat.le_of_ble_eq_true rfl) [1, 2, 0] rfl ?_
    refine k_goto (tgt := 2) h dX0_giveTo_28 rfl ?_
    refine k_sub (lv' := [(0, .ref (al (oC G) p0)), (1, .ref (al (oC G) 15)), (2, .int (v2 + (1 : Int32)))]) [0, 1, 2] rfl ?_
    exact lp_o hf K
noncomputable def f_X0_giveTo (k : Nat) (st : St) : Option (St) :=
  ((iter (fun v : Int32 × St => l_X0_giveTo_2 k v.1 v.2) fuel ((0 : Int32), st)).bind (fun q6 => ((f_X4_takeFrom 33 (k + 6) q6.2).bind (fun q8 => ((f_X3_goThrough (q8.1 (k + 6) 2) q8).bind (fun q10 => (some q10)))))))
set_option maxHeartbeats 4000000 in
theorem c_X0_giveTo {G : GG} (l : Launch) (k : Nat) (st : St) (hka : 24 ≤ k) (hkb : k < 27) (st' : St) (hf : f_X0_giveTo k st = some st') : MM l yX0_giveTo cX0_giveTo 3 none 6 (oC G) [.ref (al (oC G) k), .ref (al (oC G) 15)] st none st' := by
  refine mk_MM (by decide +kernel) (Nat.le_of_ble_eq_true rfl) (fun X h r => ?_)
  refine k_sub (lv' := [(0, .ref (al (oC G) k)), (1, .ref (al (oC G) 15))]) [0, 1] rfl ?_
  unfold f_X0_giveTo at hf
  refine k_iconst (pc' := 1) h dX0_giveTo_0 rfl ci_0 ?_
  refine k_istore_n (lv' := [(0, .ref (al (oC G) k)), (1, .ref (al (oC G) 15)), (2, .int (0 : Int32))]) (pc' := 2) h dX0_giveTo_1 rfl rfl (Nat.le_of_ble_eq_true rfl) [1, 2, 0] rfl ?_
  obtain ⟨q6, hq6, hf⟩ := bd_s hf
  refine w_X0_giveTo_2 h k hka hkb fuel (0 : Int32) st q6 hq6 ?_
  refine k_aload_n (pc' := 32) h dX0_giveTo_31 rfl rfl 1 rfl ?_
  refine k_get (v := .ref (al (oC G) 33)) (pc' := 35) h dX0_giveTo_32 rfl bC_sh fl_X0_37 rfl ?_
  refine k_aload_n (pc' := 36) h dX0_giveTo_35 rfl rfl 0 rfl ?_
  have z7a : 30 ≤ k + 6 := by have := hka; omega
  have z7b : k + 6 < 34 := by have := hkb; omega
  refine k_get (v := .ref (al (oC G) (k + 6))) (pc' := 39) h dX0_giveTo_36 rfl (bC_ke hka hkb) fl_X0_18 rfl ?_
  obtain ⟨q8, hq8, hf⟩ := bd_s hf
  refine k_callV (As := [.ref (al (oC G) (k + 6))]) (rest := []) (rv := none) (st' := q8) (stk' := []) (pc' := 42) h dX0_giveTo_39 rfl ml_X0_38 wc_X4_takeFrom wi_X4_takeFrom ⟨Nat.le_of_ble_eq_true rfl, Nat.le_of_ble_eq_true rfl⟩ (bC_tu (Nat.le_of_ble_eq_true rfl : 30 ≤ 33) (Nat.le_of_ble_eq_true rfl : 33 < 34)) rfl rfl rfl rfl (Nat.le_of_ble_eq_true rfl) (fun l => c_X4_takeFrom l 33 (k + 6) q6.2 (Nat.le_of_ble_eq_true rfl : 30 ≤ 33) (Nat.le_of_ble_eq_true rfl : 33 < 34) z7a z7b _ hq8) rfl ?_
  refine k_aload_n (pc' := 43) h dX0_giveTo_42 rfl rfl 1 rfl ?_
  refine k_aload_n (pc' := 44) h dX0_giveTo_43 rfl rfl 0 rfl ?_
  have z9a : 30 ≤ k + 6 := by have := hka; omega
  have z9b : k + 6 < 34 := by have := hkb; omega
  refine k_get (v := .ref (al (oC G) (k + 6))) (pc' := 47) h dX0_giveTo_44 rfl (bC_ke hka hkb) fl_X0_18 rfl ?_
  refine k_get (v := .int (q8.1 (k + 6) 2)) (pc' := 50) h dX0_giveTo_47 rfl (bC_tu z9a z9b) fl_X0_46 rfl ?_
  obtain ⟨q10, hq10, hf⟩ := bd_s hf
  refine k_callV (As := [.int (q8.1 (k + 6) 2)]) (rest := []) (rv := none) (st' := q10) (stk' := []) (pc' := 53) h dX0_giveTo_50 rfl ml_X0_47 wc_X3_goThrough wi_X3_goThrough ⟨Nat.le_of_ble_eq_true rfl, Nat.le_of_ble_eq_true rfl⟩ bC_sh rfl rfl rfl rfl (Nat.le_of_ble_eq_true rfl) (fun l => c_X3_goThrough l (q8.1 (k + 6) 2) q8  _ hq10) rfl ?_
  exact k_vret h r dX0_giveTo_53 (lf_v hf)
noncomputable def f_X2_patience (k : Nat) (st : St) : Option (Int32 × St) :=
  ((f_X2_isOf k (3 : Int32) st).bind (fun q1 => (if q1.1 = 0 then (some ((60 : Int32), q1.2)) else (some ((20 : Int32), q1.2)))))
set_option maxHeartbeats 4000000 in
theorem c_X2_patience {G : GG} (l : Launch) (k : Nat) (st : St) (hka : 17 ≤ k) (hkb : k < 23) (rr : Int32) (st' : St) (hf : f_X2_patience k st = some (rr, st')) : MM l yX2_patience cX2_patience 1 (some .int) 1 (oC G) [.ref (al (oC G) k)] st (some (.int rr)) st' := by
  refine mk_MM (by decide +kernel) (Nat.le_of_ble_eq_true rfl) (fun X h r => ?_)
  refine k_sub (lv' := [(0, .ref (al (oC G) k))]) [0] rfl ?_
  unfold f_X2_patience at hf
  refine k_aload_n (pc' := 1) h dX2_patience_0 rfl rfl 0 rfl ?_
  refine k_iconst (pc' := 2) h dX2_patience_1 rfl ci_3 ?_
  obtain ⟨q1, hq1, hf⟩ := bd_s hf
  refine k_callV (As := [.int (3 : Int32)]) (rest := []) (rv := some (.int q1.1)) (st' := q1.2) (stk' := [.int q1.1]) (pc' := 5) h dX2_patience_2 rfl ml_X2_41 wc_X2_isOf wi_X2_isOf ⟨Nat.le_of_ble_eq_true rfl, Nat.le_of_ble_eq_true rfl⟩ (bC_re hka hkb) rfl rfl rfl rfl (Nat.le_of_ble_eq_true rfl) (fun l => c_X2_isOf l k (3 : Int32) st hka hkb _ _ hq1) rfl ?_
  refine k_if_eq (tgt := 13) (pc' := 8) h dX2_patience_5 rfl rfl (fun c2 => ?_) (fun c2 => ?_)
  · replace hf := if_t c2 hf
    refine k_bipush (pc' := 15) h dX2_patience_13 rfl cb_60 ?_
    exact k_iret h r dX2_patience_15 (lf_i hf)
  · replace hf := if_f c2 hf
    refine k_bipush (pc' := 10) h dX2_patience_8 rfl cb_20 ?_
    refine k_goto (tgt := 15) h dX2_patience_10 rfl ?_
    exact k_iret h r dX2_patience_15 (lf_i hf)
noncomputable def l_X1_walk_18 (p2 : Nat) (p3 : Int32) (p4 : Int32) (v5 : Int32) (st : St) : Option ((Int32 × St) ⊕ (Int32 × St)) :=
  (if p3 ≤ (v5 + (1 : Int32)) then (some (.inr (v5, st))) else (gd (inb v5 40) (gd (inb (st.1 p2 v5.toNatClampNeg) 6) (gd (inb (v5 + (1 : Int32)) 40) (lw (st.1 p2 (v5 + (1 : Int32)).toNatClampNeg) (fun y8 => (ls (sA st 42 (upd (st.1 42) 0 (if (st.1 42 0) < y8 then y8 else (st.1 42 0)))) (fun s9 => ((f_X2_patience (17 + (st.1 p2 v5.toNatClampNeg).toNatClampNeg) s9).bind (fun q10 => (if ((s9.1 42 0) - y8) ≤ q10.1 then ((f_X2_askingSeconds (17 + (st.1 p2 v5.toNatClampNeg).toNatClampNeg) q10.2).bind (fun q12 => (ls (sA q12.2 42 (upd (q12.2.1 42) 0 ((q10.2.1 42 0) + q12.1))) (fun s13 => (if p4 < (s13.1 42 0) then (some (.inl (v5 + (2 : Int32), s13))) else (ls (sA s13 42 (upd (s13.1 42) 2 ((s13.1 42 2) + (1 : Int32)))) (fun s15 => (some (.inl (v5 + (2 : Int32), s15)))))))))) else (ls (sA q10.2 42 (upd (q10.2.1 42) 1 ((q10.2.1 42 1) + (1 : Int32)))) (fun s16 => (some (.inl (v5 + (2 : Int32), s16))))))))))))))))
set_option maxHeartbeats 4000000 in
theorem w_X1_walk_18 {G : GG} {X : Cx} (h : Ok X (oC G) cX1_walk RX1 8 (RM 2))  (p2 : Nat) (p3 : Int32) (p4 : Int32) (hp2a : 2 ≤ p2) (hp2b : p2 < 8) (n : Nat) (v5 : Int32) (st : St) (q : Int32 × St) (hq : iter (fun v : Int32 × St => l_X1_walk_18 p2 p3 p4 v.1 v.2) n (v5, st) = some q) (kx : Wk X (oC G) 8 q.2 122 [(0, .ref (al (oC G) 42)), (1, .ref (al (oC G) 16)), (2, .ref (al (oC G) p2)), (3, .int p3), (4, .int p4), (5, .int q.1)] []) : Wk X (oC G) 8 st 18 [(0, .ref (al (oC G) 42)), (1, .ref (al (oC G) 16)), (2, .ref (al (oC G) p2)), (3, .int p3), (4, .int p4), (5, .int v5)] [] := by
  refine iter_rule (hd := (fun v : Int32 × St => Wk X (oC G) 8 v.2 18 [(0, .ref (al (oC G) 42)), (1, .ref (al (oC G) 16)), (2, .ref (al (oC G) p2)), (3, .int p3), (4, .int p4), (5, .int v.1)] [])) (ex := (fun v : Int32 × St => Wk X (oC G) 8 v.2 122 [(0, .ref (al (oC G) 42)), (1, .ref (al (oC G) 16)), (2, .ref (al (oC G) p2)), (3, .int p3), (4, .int p4), (5, .int v.1)] [])) ?_ n (v5, st) q hq kx
  rintro ⟨v5, st⟩ oo hbv K
  show Wk X (oC G) 8 st 18 [(0, .ref (al (oC G) 42)), (1, .ref (al (oC G) 16)), (2, .ref (al (oC G) p2)), (3, .int p3), (4, .int p4), (5, .int v5)] []
  have hf : l_X1_walk_18 p2 p3 p4 v5 st = some oo := hbv
  unfold l_X1_walk_18 at hf
  refine k_iload (pc' := 20) h dX1_walk_18 rfl 5 rfl ?_
  refine k_iconst (pc' := 21) h dX1_walk_20 rfl ci_1 ?_
  refine k_iadd (pc' := 22) h dX1_walk_21 rfl ?_
  refine k_iload_n (pc' := 23) h dX1_walk_22 rfl rfl 3 rfl ?_
  refine k_icmp_ge (tgt := 122) (pc' := 26) h dX1_walk_23 rfl rfl (fun c4 => ?_) (fun c4 => ?_)
  · replace hf := if_t c4 hf
    refine k_sub (lv' := [(0, .ref (al (oC G) 42)), (1, .ref (al (oC G) 16)), (2, .ref (al (oC G) p2)), (3, .int p3), (4, .int p4), (5, .int v5)]) [0, 1, 2, 3, 4, 5] rfl ?_
    exact lp_o hf K
  · replace hf := if_f c4 hf
    refine k_aload_n (pc' := 27) h dX1_walk_26 rfl rfl 1 rfl ?_
    refine k_aload_n (pc' := 28) h dX1_walk_27 rfl rfl 2 rfl ?_
    refine k_iload (pc' := 30) h dX1_walk_28 rfl 5 rfl ?_
    have g5 := gd_1 hf
    replace hf := gd_2 hf
    refine k_iald (pc' := 31) h dX1_walk_30 rfl (aC_row hp2a hp2b) g5 ?_
    have g6 := gd_1 hf
    replace hf := gd_2 hf
    refine k_aald (tt := .object "TheUsual$Regular") (pc' := 32) h dX1_walk_31 rfl rC_regs rfl rfl g6 ?_
    refine k_astore (lv' := [(0, .ref (al (oC G) 42)), (1, .ref (al (oC G) 16)), (2, .ref (al (oC G) p2)), (3, .int p3), (4, .int p4), (5, .int v5), (6, .ref (al (oC G) (17 + (st.1 p2 v5.toNatClampNeg).toNatClampNeg)))]) (pc' := 34) h dX1_walk_32 rfl (Nat.le_of_ble_eq_true rfl) [1, 2, 3, 4, 5, 6, 0] rfl ?_
    refine k_aload_n (pc' := 35) h dX1_walk_34 rfl rfl 2 rfl ?_
    refine k_iload (pc' := 37) h dX1_walk_35 rfl 5 rfl ?_
    refine k_iconst (pc' := 38) h dX1_walk_37 rfl ci_1 ?_
    refine k_iadd (pc' := 39) h dX1_walk_38 rfl ?_
    have g7 := gd_1 hf
    replace hf := gd_2 hf
    refine k_iald (pc' := 40) h dX1_walk_39 rfl (aC_row hp2a hp2b) g7 ?_
    obtain ⟨y8, hy8, hf⟩ := lw_s hf
    refine k_eqi hy8 ?_
    refine k_istore (lv' := [(0, .ref (al (oC G) 42)), (1, .ref (al (oC G) 16)), (2, .ref (al (oC G) p2)), (3, .int p3), (4, .int p4), (5, .int v5), (6, .ref (al (oC G) (17 + (st.1 p2 v5.toNatClampNeg).toNatClampNeg))), (7, .int y8)]) (pc' := 42) h dX1_walk_40 rfl (Nat.le_of_ble_eq_true rfl) [1, 2, 3, 4, 5, 6, 7, 0] rfl ?_
    refine k_aload_n (pc' := 43) h dX1_walk_42 rfl rfl 0 rfl ?_
    refine k_aload_n (pc' := 44) h dX1_walk_43 rfl rfl 0 rfl ?_
    refine k_get (v := .int (st.1 42 0)) (pc' := 47) h dX1_walk_44 rfl bC_li fl_X1_7 rfl ?_
    refine k_iload (pc' := 49) h dX1_walk_47 rfl 7 rfl ?_
    refine k_mmax (pc' := 52) h dX1_walk_49 rfl ml_X1_19 w_max ⟨Nat.le_of_ble_eq_true rfl, Nat.le_of_ble_eq_true rfl⟩ ?_
    refine k_put (pc' := 55) h dX1_walk_52 rfl bC_li fp_X1_7 sf_li_0 sj_li_0 ?_
    obtain ⟨s9, hs9, hf⟩ := ls_s hf
    refine k_st hs9 ?_
    refine k_aload_n (pc' := 56) h dX1_walk_55 rfl rfl 0 rfl ?_
    refine k_get (v := .int (s9.1 42 0)) (pc' := 59) h dX1_walk_56 rfl bC_li fl_X1_7 rfl ?_
    refine k_iload (pc' := 61) h dX1_walk_59 rfl 7 rfl ?_
    refine k_isub (pc' := 62) h dX1_walk_61 rfl ?_
    refine k_aload (pc' := 64) h dX1_walk_62 rfl 6 rfl ?_
    obtain ⟨q10, hq10, hf⟩ := bd_s hf
    refine k_callV (As := []) (rest := [.int ((s9.1 42 0) - y8)]) (rv := some (.int q10.1)) (st' := q10.2) (stk' := [.int q10.1, .int ((s9.1 42 0) - y8)]) (pc' := 67) h dX1_walk_64 rfl ml_X1_25 wc_X2_patience wi_X2_patience ⟨Nat.le_of_ble_eq_true rfl, Nat.le_of_ble_eq_true rfl⟩ (bC_re (Nat.le_add_right 17 (st.1 p2 v5.toNatClampNeg).toNatClampNeg) (Nat.add_lt_add_left (inb_lt g6) 17)) rfl rfl rfl rfl (Nat.le_of_ble_eq_true rfl) (fun l => c_X2_patience l (17 + (st.1 p2 v5.toNatClampNeg).toNatClampNeg) s9 (Nat.le_add_right 17 (st.1 p2 v5.toNatClampNeg).toNatClampNeg) (Nat.add_lt_add_left (inb_lt g6) 17) _ _ hq10) rfl ?_
    refine k_icmp_le (tgt := 83) (pc' := 70) h dX1_walk_67 rfl rfl (fun c11 => ?_) (fun c11 => ?_)
    · replace hf := if_t c11 hf
      refine k_aload_n (pc' := 84) h dX1_walk_83 rfl rfl 0 rfl ?_
      refine k_dup (pc' := 85) h dX1_walk_84 rfl rfl ?_
      refine k_get (v := .int (q10.2.1 42 0)) (pc' := 88) h dX1_walk_85 rfl bC_li fl_X1_7 rfl ?_
      refine k_aload (pc' := 90) h dX1_walk_88 rfl 6 rfl ?_
      obtain ⟨q12, hq12, hf⟩ := bd_s hf
      refine k_callV (As := []) (rest := [.int (q10.2.1 42 0), .ref (al (oC G) 42)]) (rv := some (.int q12.1)) (st' := q12.2) (stk' := [.int q12.1, .int (q10.2.1 42 0), .ref (al (oC G) 42)]) (pc' := 93) h dX1_walk_90 rfl ml_X1_31 wc_X2_askingSeconds wi_X2_askingSeconds ⟨Nat.le_of_ble_eq_true rfl, Nat.le_of_ble_eq_true rfl⟩ (bC_re (Nat.le_add_right 17 (st.1 p2 v5.toNatClampNeg).toNatClampNeg) (Nat.add_lt_add_left (inb_lt g6) 17)) rfl rfl rfl rfl (Nat.le_of_ble_eq_true rfl) (fun l => c_X2_askingSeconds l (17 + (st.1 p2 v5.toNatClampNeg).toNatClampNeg) q10.2 (Nat.le_add_right 17 (st.1 p2 v5.toNatClampNeg).toNatClampNeg) (Nat.add_lt_add_left (inb_lt g6) 17) _ _ hq12) rfl ?_
      refine k_iadd (pc' := 94) h dX1_walk_93 rfl ?_
      refine k_put (pc' := 97) h dX1_walk_94 rfl bC_li fp_X1_7 sf_li_0 sj_li_0 ?_
      obtain ⟨s13, hs13, hf⟩ := ls_s hf
      refine k_st hs13 ?_
      refine k_aload_n (pc' := 98) h dX1_walk_97 rfl rfl 0 rfl ?_
      refine k_get (v := .int (s13.1 42 0)) (pc' := 101) h dX1_walk_98 rfl bC_li fl_X1_7 rfl ?_
      refine k_iload (pc' := 103) h dX1_walk_101 rfl 4 rfl ?_
      refine k_icmp_gt (tgt := 116) (pc' := 106) h dX1_walk_103 rfl rfl (fun c14 => ?_) (fun c14 => ?_)
      · replace hf := if_t c14 hf
        refine k_iinc (lv' := [(0, .ref (al (oC G) 42)), (1, .ref (al (oC G) 16)), (2, .ref (al (oC G) p2)), (3, .int p3), (4, .int p4), (5, .int (v5 + (2 : Int32))), (6, .ref (al (oC G) (17 + (st.1 p2 v5.toNatClampNeg).toNatClampNeg))), (7, .int y8)]) (pc' := 119) h dX1_walk_116 rfl 5 rfl (congrArg (fun z => v5 + z) ci_2) (Nat.le_of_ble_eq_true rfl) [1, 2, 3, 4, 5, 0, 6, 7] rfl ?_
        refine k_goto (tgt := 18) h dX1_walk_119 rfl ?_
        refine k_sub (lv' := [(0, .ref (al (oC G) 42)), (1, .ref (al (oC G) 16)), (2, .ref (al (oC G) p2)), (3, .int p3), (4, .int p4), (5, .int (v5 + (2 : Int32)))]) [0, 1, 2, 3, 4, 5] rfl ?_
        exact lp_o hf K
      · replace hf := if_f c14 hf
        refine k_aload_n (pc' := 107) h dX1_walk_106 rfl rfl 0 rfl ?_
        refine k_dup (pc' := 108) h dX1_walk_107 rfl rfl ?_
        refine k_get (v := .int (s13.1 42 2)) (pc' := 111) h dX1_walk_108 rfl bC_li fl_X1_16 rfl ?_
        refine k_iconst (pc' := 112) h dX1_walk_111 rfl ci_1 ?_
        refine k_iadd (pc' := 113) h dX1_walk_112 rfl ?_
        refine k_put (pc' := 116) h dX1_walk_113 rfl bC_li fp_X1_16 sf_li_2 sj_li_2 ?_
        obtain ⟨s15, hs15, hf⟩ := ls_s hf
        refine k_st hs15 ?_
        refine k_iinc (lv' := [(0, .ref (al (oC G) 42)), (1, .ref (al (oC G) 16)), (2, .ref (al (oC G) p2)), (3, .int p3), (4, .int p4), (5, .int (v5 + (2 : Int32))), (6, .ref (al (oC G) (17 + (st.1 p2 v5.toNatClampNeg).toNatClampNeg))), (7, .int y8)]) (pc' := 119) h dX1_walk_116 rfl 5 rfl (congrArg (fun z => v5 + z) ci_2) (Nat.le_of_ble_eq_true rfl) [1, 2, 3, 4, 5, 0, 6, 7] rfl ?_
        refine k_goto (tgt := 18) h dX1_walk_119 rfl ?_
        refine k_sub (lv' := [(0, .ref (al (oC G) 42)), (1, .ref (al (oC G) 16)), (2, .ref (al (oC G) p2)), (3, .int p3), (4, .int p4), (5, .int (v5 + (2 : Int32)))]) [0, 1, 2, 3, 4, 5] rfl ?_
        exact lp_o hf K
    · replace hf := if_f c11 hf
      refine k_aload_n (pc' := 71) h dX1_walk_70 rfl rfl 0 rfl ?_
      refine k_dup (pc' := 72) h dX1_walk_71 rfl rfl ?_
      refine k_get (v := .int (q10.2.1 42 1)) (pc' := 75) h dX1_walk_72 rfl bC_li fl_X1_13 rfl ?_
      refine k_iconst (pc' := 76) h dX1_walk_75 rfl ci_1 ?_
      refine k_iadd (pc' := 77) h dX1_walk_76 rfl ?_
      refine k_put (pc' := 80) h dX1_walk_77 rfl bC_li fp_X1_13 sf_li_1 sj_li_1 ?_
      obtain ⟨s16, hs16, hf⟩ := ls_s hf
      refine k_st hs16 ?_
      refine k_goto (tgt := 116) h dX1_walk_80 rfl ?_
      refine k_iinc (lv' := [(0, .ref (al (oC G) 42)), (1, .ref (al (oC G) 16)), (2, .ref (al (oC G) p2)), (3, .int p3), (4, .int p4), (5, .int (v5 + (2 : Int32))), (6, .ref (al (oC G) (17 + (st.1 p2 v5.toNatClampNeg).toNatClampNeg))), (7, .int y8)]) (pc' := 119) h dX1_walk_116 rfl 5 rfl (congrArg (fun z => v5 + z) ci_2) (Nat.le_of_ble_eq_true rfl) [1, 2, 3, 4, 5, 0, 6, 7] rfl ?_
      refine k_goto (tgt := 18) h dX1_walk_119 rfl ?_
      refine k_sub (lv' := [(0, .ref (al (oC G) 42)), (1, .ref (al (oC G) 16)), (2, .ref (al (oC G) p2)), (3, .int p3), (4, .int p4), (5, .int (v5 + (2 : Int32)))]) [0, 1, 2, 3, 4, 5] rfl ?_
      exact lp_o hf K
noncomputable def f_X1_walk (k1 : Nat) (x2 : Int32) (x3 : Int32) (st : St) : Option (St) :=
  (ls (sA st 42 (upd (st.1 42) 0 (0 : Int32))) (fun s1 => (ls (sA s1 42 (upd (s1.1 42) 1 (0 : Int32))) (fun s2 => (ls (sA s2 42 (upd (s2.1 42) 2 (0 : Int32))) (fun s3 => ((iter (fun v : Int32 × St => l_X1_walk_18 k1 x2 x3 v.1 v.2) fuel ((0 : Int32), s3)).bind (fun q17 => (some q17.2)))))))))
set_option maxHeartbeats 4000000 in
theorem c_X1_walk {G : GG} (l : Launch) (k1 : Nat) (x2 : Int32) (x3 : Int32) (st : St) (hk1a : 2 ≤ k1) (hk1b : k1 < 8) (st' : St) (hf : f_X1_walk k1 x2 x3 st = some st') : MM l yX1_walk cX1_walk 8 none 2 (oC G) [.ref (al (oC G) 42), .ref (al (oC G) 16), .ref (al (oC G) k1), .int x2, .int x3] st none st' := by
  refine mk_MM (by decide +kernel) (Nat.le_of_ble_eq_true rfl) (fun X h r => ?_)
  refine k_sub (lv' := [(0, .ref (al (oC G) 42)), (1, .ref (al (oC G) 16)), (2, .ref (al (oC G) k1)), (3, .int x2), (4, .int x3)]) [0, 1, 2, 3, 4] rfl ?_
  unfold f_X1_walk at hf
  refine k_aload_n (pc' := 1) h dX1_walk_0 rfl rfl 0 rfl ?_
  refine k_iconst (pc' := 2) h dX1_walk_1 rfl ci_0 ?_
  refine k_put (pc' := 5) h dX1_walk_2 rfl bC_li fp_X1_7 sf_li_0 sj_li_0 ?_
  obtain ⟨s1, hs1, hf⟩ := ls_s hf
  refine k_st hs1 ?_
  refine k_aload_n (pc' := 6) h dX1_walk_5 rfl rfl 0 rfl ?_
  refine k_iconst (pc' := 7) h dX1_walk_6 rfl ci_0 ?_
  refine k_put (pc' := 10) h dX1_walk_7 rfl bC_li fp_X1_13 sf_li_1 sj_li_1 ?_
  obtain ⟨s2, hs2, hf⟩ := ls_s hf
  refine k_st hs2 ?_
  refine k_aload_n (pc' := 11) h dX1_walk_10 rfl rfl 0 rfl ?_
  refine k_iconst (pc' := 12) h dX1_walk_11 rfl ci_0 ?_
  refine k_put (pc' := 15) h dX1_walk_12 rfl bC_li fp_X1_16 sf_li_2 sj_li_2 ?_
  obtain ⟨s3, hs3, hf⟩ := ls_s hf
  refine k_st hs3 ?_
  refine k_iconst (pc' := 16) h dX1_walk_15 rfl ci_0 ?_
  refine k_istore (lv' := [(0, .ref (al (oC G) 42)), (1, .ref (al (oC G) 16)), (2, .ref (al (oC G) k1)), (3, .int x2), (4, .int x3), (5, .int (0 : Int32))]) (pc' := 18) h dX1_walk_16 rfl (Nat.le_of_ble_eq_true rfl) [1, 2, 3, 4, 5, 0] rfl ?_
  obtain ⟨q17, hq17, hf⟩ := bd_s hf
  refine w_X1_walk_18 h k1 x2 x3 hk1a hk1b fuel (0 : Int32) s3 q17 hq17 ?_
  exact k_vret h r dX1_walk_122 (lf_v hf)
noncomputable def l_X5_kindOf_2 (p0 : Int32) (v1 : Int32) (st : St) : Option ((Int32 × St) ⊕ ((Int32 × St) ⊕ (Int32 × St))) :=
  (if (6 : Int32) ≤ v1 then (some (.inr (.inr (v1, st)))) else (gd (inb v1 6) (if (tb0 v1.toNatClampNeg) = p0 then (some (.inr (.inl (v1, st)))) else (some (.inl (v1 + (1 : Int32), st))))))
set_option maxHeartbeats 4000000 in
theorem w_X5_kindOf_2 {G : GG} {X : Cx} (h : Ok X (oC G) cX5_kindOf RX5 2 (RM 0)) {P : Option Value → St → Prop} (r : Rt X (oC G) P (some .int)) (p0 : Int32)  (n : Nat) (v1 : Int32) (st : St) (q : (Int32 × St) ⊕ (Int32 × St)) (hq : iter (fun v : Int32 × St => l_X5_kindOf_2 p0 v.1 v.2) n (v1, st) = some q) (kr : ∀ rs, q = .inl rs → P (some (.int rs.1)) rs.2) (kx : ∀ v : Int32 × St, q = .inr v → Wk X (oC G) 2 v.2 25 [(0, .int p0), (1, .int v.1)] []) : Wk X (oC G) 2 st 2 [(0, .int p0), (1, .int v1)] [] := by
  refine iter_rule (hd := (fun v : Int32 × St => Wk X (oC G) 2 v.2 2 [(0, .int p0), (1, .int v.1)] [])) (ex := (Sum.elim (fun rs : Int32 × St => P (some (.int rs.1)) rs.2) (fun v : Int32 × St => Wk X (oC G) 2 v.2 25 [(0, .int p0), (1, .int v.1)] []))) ?_ n (v1, st) q hq (by cases q with
    | inl rs => exact kr rs rfl
    | inr v => exact kx v rfl)
  rintro ⟨v1, st⟩ oo hbv K
  show Wk X (oC G) 2 st 2 [(0, .int p0), (1, .int v1)] []
  have hf : l_X5_kindOf_2 p0 v1 st = some oo := hbv
  unfold l_X5_kindOf_2 at hf
  refine k_iload_n (pc' := 3) h dX5_kindOf_2 rfl rfl 1 rfl ?_
  refine k_bipush (pc' := 5) h dX5_kindOf_3 rfl cb_6 ?_
  refine k_icmp_ge (tgt := 25) (pc' := 8) h dX5_kindOf_5 rfl rfl (fun c1 => ?_) (fun c1 => ?_)
  · replace hf := if_t c1 hf
    refine k_sub (lv' := [(0, .int p0), (1, .int v1)]) [0, 1] rfl ?_
    exact lp_o hf K
  · replace hf := if_f c1 hf
    refine k_gets0 (pc' := 11) h dX5_kindOf_8 rfl gs_X5_337 ?_
    refine k_iload_n (pc' := 12) h dX5_kindOf_11 rfl rfl 1 rfl ?_
    have g2 := gd_1 hf
    replace hf := gd_2 hf
    refine k_tld0 (pc' := 13) h dX5_kindOf_12 rfl g2 ?_
    refine k_iload_n (pc' := 14) h dX5_kindOf_13 rfl rfl 0 rfl ?_
    refine k_icmp_ne (tgt := 19) (pc' := 17) h dX5_kindOf_14 rfl rfl (fun c3 => ?_) (fun c3 => ?_)
    · replace hf := if_f c3 hf
      refine k_iinc (lv' := [(0, .int p0), (1, .int (v1 + (1 : Int32)))]) (pc' := 22) h dX5_kindOf_19 rfl 1 rfl (congrArg (fun z => v1 + z) ci_1) (Nat.le_of_ble_eq_true rfl) [1, 0] rfl ?_
      refine k_goto (tgt := 2) h dX5_kindOf_22 rfl ?_
      refine k_sub (lv' := [(0, .int p0), (1, .int (v1 + (1 : Int32)))]) [0, 1] rfl ?_
      exact lp_o hf K
    · replace hf := if_t c3 hf
      refine k_iload_n (pc' := 18) h dX5_kindOf_17 rfl rfl 1 rfl ?_
      exact k_iret h r dX5_kindOf_18 (lp_o hf K)
noncomputable def f_X5_kindOf (x0 : Int32) (st : St) : Option (Int32 × St) :=
  ((iter (fun v : Int32 × St => l_X5_kindOf_2 x0 v.1 v.2) fuel ((0 : Int32), st)).bind (fun q4 => Sum.elim (fun rs6 => some rs6) (fun v5 => (some ((-9 : Int32), v5.2))) q4))
set_option maxHeartbeats 4000000 in
theorem c_X5_kindOf {G : GG} (l : Launch) (x0 : Int32) (st : St)  (rr : Int32) (st' : St) (hf : f_X5_kindOf x0 st = some (rr, st')) : MM l yX5_kindOf cX5_kindOf 2 (some .int) 0 (oC G) [.int x0] st (some (.int rr)) st' := by
  refine mk_MM (by decide +kernel) (Nat.le_of_ble_eq_true rfl) (fun X h r => ?_)
  refine k_sub (lv' := [(0, .int x0)]) [0] rfl ?_
  unfold f_X5_kindOf at hf
  refine k_iconst (pc' := 1) h dX5_kindOf_0 rfl ci_0 ?_
  refine k_istore_n (lv' := [(0, .int x0), (1, .int (0 : Int32))]) (pc' := 2) h dX5_kindOf_1 rfl rfl (Nat.le_of_ble_eq_true rfl) [1, 0] rfl ?_
  obtain ⟨q4, hq4, hf⟩ := bd_s hf
  refine w_X5_kindOf_2 h r x0  fuel (0 : Int32) st q4 hq4 (fun rs6 ers6 => ?_) (fun v5 ev5 => ?_)
  · subst ers6
    exact lf_i hf
  · subst ev5
    replace hf := sel_r hf
    refine k_bipush (pc' := 27) h dX5_kindOf_25 rfl cb_m9 ?_
    exact k_iret h r dX5_kindOf_27 (lf_i hf)
noncomputable def f_X2_become (k : Nat) (k0 : Nat) (x1 : Int32) (st : St) : Option (St) :=
  (gd (inb x1 60) ((f_X5_kindOf (st.1 k0 x1.toNatClampNeg) st).bind (fun q2 => (ls (sA q2.2 k (upd (q2.2.1 k) 0 q2.1)) (fun s3 => (gd (inb (x1 + (1 : Int32)) 60) (ls (sA s3 k (upd (s3.1 k) 1 ((s3.1 k0 (x1 + (1 : Int32)).toNatClampNeg) - (48 : Int32)))) (fun s5 => (gd (inb (x1 + (2 : Int32)) 60) (ls (sA s5 k (upd (s5.1 k) 2 ((s5.1 k0 (x1 + (2 : Int32)).toNatClampNeg) - (48 : Int32)))) (fun s7 => (gd (inb (x1 + (3 : Int32)) 60) (ls (sA s7 k (upd (s7.1 k) 3 ((s7.1 k0 (x1 + (3 : Int32)).toNatClampNeg) - (48 : Int32)))) (fun s9 => (gd (inb (x1 + (4 : Int32)) 60) (ls (sA s9 k (upd (s9.1 k) 4 ((s9.1 k0 (x1 + (4 : Int32)).toNatClampNeg) - (48 : Int32)))) (fun s11 => (gd (inb (x1 + (5 : Int32)) 60) (ls (sA s11 k (upd (s11.1 k) 5 ((s11.1 k0 (x1 + (5 : Int32)).toNatClampNeg) - (48 : Int32)))) (fun s13 => (some s13)))))))))))))))))))))
set_option maxHeartbeats 4000000 in
theorem c_X2_become {G : GG} (l : Launch) (k : Nat) (k0 : Nat) (x1 : Int32) (st : St) (hka : 17 ≤ k) (hkb : k < 23) (hk0a : 10 ≤ k0) (hk0b : k0 < 14) (st' : St) (hf : f_X2_become k k0 x1 st = some st') : MM l yX2_become cX2_become 3 none 1 (oC G) [.ref (al (oC G) k), .ref (al (oC G) k0), .int x1] st none st' := by
  refine mk_MM (by decide +kernel) (Nat.le_of_ble_eq_true rfl) (fun X h r => ?_)
  refine k_sub (lv' := [(0, .ref (al (oC G) k)), (1, .ref (al (oC G) k0)), (2, .int x1)]) [0, 1, 2] rfl ?_
  unfold f_X2_become at hf
  refine k_aload_n (pc' := 1) h dX2_become_0 rfl rfl 0 rfl ?_
  refine k_aload_n (pc' := 2) h dX2_become_1 rfl rfl 1 rfl ?_
  refine k_iload_n (pc' := 3) h dX2_become_2 rfl rfl 2 rfl ?_
  have g1 := gd_1 hf
  replace hf := gd_2 hf
  refine k_bald (pc' := 4) h dX2_become_3 rfl (aC_text hk0a hk0b) g1 ?_
  obtain ⟨q2, hq2, hf⟩ := bd_s hf
  refine k_callSN (As := [.int (st.1 k0 x1.toNatClampNeg)]) (rest := [.ref (al (oC G) k)]) (rv := some (.int q2.1)) (st' := q2.2) (stk' := [.int q2.1, .ref (al (oC G) k)]) (pc' := 7) h dX2_become_4 rfl (fun z => z.1) wc_X5_kindOf ws_X5_kindOf ⟨Nat.le_of_ble_eq_true rfl, Nat.le_of_ble_eq_true rfl⟩ rfl rfl (Nat.le_of_ble_eq_true rfl) (fun l => c_X5_kindOf l (st.1 k0 x1.toNatClampNeg) st  _ _ hq2) rfl ?_
  refine k_put (pc' := 10) h dX2_become_7 rfl (bC_re hka hkb) fp_X2_13 sf_re_0 sj_re_0 ?_
  obtain ⟨s3, hs3, hf⟩ := ls_s hf
  refine k_st hs3 ?_
  refine k_aload_n (pc' := 11) h dX2_become_10 rfl rfl 0 rfl ?_
  refine k_aload_n (pc' := 12) h dX2_become_11 rfl rfl 1 rfl ?_
  refine k_iload_n (pc' := 13) h dX2_become_12 rfl rfl 2 rfl ?_
  refine k_iconst (pc' := 14) h dX2_become_13 rfl ci_1 ?_
  refine k_iadd (pc' := 15) h dX2_become_14 rfl ?_
  have g4 := gd_1 hf
  replace hf := gd_2 hf
  refine k_bald (pc' := 16) h dX2_become_15 rfl (aC_text hk0a hk0b) g4 ?_
  refine k_bipush (pc' := 18) h dX2_become_16 rfl cb_48 ?_
  refine k_isub (pc' := 19) h dX2_become_18 rfl ?_
  refine k_put (pc' := 22) h dX2_become_19 rfl (bC_re hka hkb) fp_X2_19 sf_re_1 sj_re_1 ?_
  obtain ⟨s5, hs5, hf⟩ := ls_s hf
  refine k_st hs5 ?_
  refine k_aload_n (pc' := 23) h dX2_become_22 rfl rfl 0 rfl ?_
  refine k_aload_n (pc' := 24) h dX2_become_23 rfl rfl 1 rfl ?_
  refine k_iload_n (pc' := 25) h dX2_become_24 rfl rfl 2 rfl ?_
  refine k_iconst (pc' := 26) h dX2_become_25 rfl ci_2 ?_
  refine k_iadd (pc' := 27) h dX2_become_26 rfl ?_
  have g6 := gd_1 hf
  replace hf := gd_2 hf
  refine k_bald (pc' := 28) h dX2_become_27 rfl (aC_text hk0a hk0b) g6 ?_
  refine k_bipush (pc' := 30) h dX2_become_28 rfl cb_48 ?_
  refine k_isub (pc' := 31) h dX2_become_30 rfl ?_
  refine k_put (pc' := 34) h dX2_become_31 rfl (bC_re hka hkb) fp_X2_22 sf_re_2 sj_re_2 ?_
  obtain ⟨s7, hs7, hf⟩ := ls_s hf
  refine k_st hs7 ?_
  refine k_aload_n (pc' := 35) h dX2_become_34 rfl rfl 0 rfl ?_
  refine k_aload_n (pc' := 36) h dX2_become_35 rfl rfl 1 rfl ?_
  refine k_iload_n (pc' := 37) h dX2_become_36 rfl rfl 2 rfl ?_
  refine k_iconst (pc' := 38) h dX2_become_37 rfl ci_3 ?_
  refine k_iadd (pc' := 39) h dX2_become_38 rfl ?_
  have g8 := gd_1 hf
  replace hf := gd_2 hf
  refine k_bald (pc' := 40) h dX2_become_39 rfl (aC_text hk0a hk0b) g8 ?_
  refine k_bipush (pc' := 42) h dX2_become_40 rfl cb_48 ?_
  refine k_isub (pc' := 43) h dX2_become_42 rfl ?_
  refine k_put (pc' := 46) h dX2_become_43 rfl (bC_re hka hkb) fp_X2_25 sf_re_3 sj_re_3 ?_
  obtain ⟨s9, hs9, hf⟩ := ls_s hf
  refine k_st hs9 ?_
  refine k_aload_n (pc' := 47) h dX2_become_46 rfl rfl 0 rfl ?_
  refine k_aload_n (pc' := 48) h dX2_become_47 rfl rfl 1 rfl ?_
  refine k_iload_n (pc' := 49) h dX2_become_48 rfl rfl 2 rfl ?_
  refine k_iconst (pc' := 50) h dX2_become_49 rfl ci_4 ?_
  refine k_iadd (pc' := 51) h dX2_become_50 rfl ?_
  have g10 := gd_1 hf
  replace hf := gd_2 hf
  refine k_bald (pc' := 52) h dX2_become_51 rfl (aC_text hk0a hk0b) g10 ?_
  refine k_bipush (pc' := 54) h dX2_become_52 rfl cb_48 ?_
  refine k_isub (pc' := 55) h dX2_become_54 rfl ?_
  refine k_put (pc' := 58) h dX2_become_55 rfl (bC_re hka hkb) fp_X2_28 sf_re_4 sj_re_4 ?_
  obtain ⟨s11, hs11, hf⟩ := ls_s hf
  refine k_st hs11 ?_
  refine k_aload_n (pc' := 59) h dX2_become_58 rfl rfl 0 rfl ?_
  refine k_aload_n (pc' := 60) h dX2_become_59 rfl rfl 1 rfl ?_
  refine k_iload_n (pc' := 61) h dX2_become_60 rfl rfl 2 rfl ?_
  refine k_iconst (pc' := 62) h dX2_become_61 rfl ci_5 ?_
  refine k_iadd (pc' := 63) h dX2_become_62 rfl ?_
  have g12 := gd_1 hf
  replace hf := gd_2 hf
  refine k_bald (pc' := 64) h dX2_become_63 rfl (aC_text hk0a hk0b) g12 ?_
  refine k_bipush (pc' := 66) h dX2_become_64 rfl cb_48 ?_
  refine k_isub (pc' := 67) h dX2_become_66 rfl ?_
  refine k_put (pc' := 70) h dX2_become_67 rfl (bC_re hka hkb) fp_X2_31 sf_re_5 sj_re_5 ?_
  obtain ⟨s13, hs13, hf⟩ := ls_s hf
  refine k_st hs13 ?_
  exact k_vret h r dX2_become_70 (lf_v hf)
noncomputable def f_X2_looks (k : Nat) (x0 : Int32) (x1 : Int32) (st : St) : Option (Int32 × St) :=
  (if x0 = (-9 : Int32) then (if x1 = (-9 : Int32) then (some ((1 : Int32), st)) else (if x1 = (st.1 k 2) then (some ((1 : Int32), st)) else (some ((0 : Int32), st)))) else (if x0 = (st.1 k 1) then (if x1 = (-9 : Int32) then (some ((1 : Int32), st)) else (if x1 = (st.1 k 2) then (some ((1 : Int32), st)) else (some ((0 : Int32), st)))) else (some ((0 : Int32), st))))
set_option maxHeartbeats 4000000 in
theorem c_X2_looks {G : GG} (l : Launch) (k : Nat) (x0 : Int32) (x1 : Int32) (st : St) (hka : 17 ≤ k) (hkb : k < 23) (rr : Int32) (st' : St) (hf : f_X2_looks k x0 x1 st = some (rr, st')) : MM l yX2_looks cX2_looks 3 (some .boolean) 0 (oC G) [.ref (al (oC G) k), .int x0, .int x1] st (some (.int rr)) st' := by
  refine mk_MM (by decide +kernel) (Nat.le_of_ble_eq_true rfl) (fun X h r => ?_)
  refine k_sub (lv' := [(0, .ref (al (oC G) k)), (1, .int x0), (2, .int x1)]) [0, 1, 2] rfl ?_
  unfold f_X2_looks at hf
  refine k_iload_n (pc' := 1) h dX2_looks_0 rfl rfl 1 rfl ?_
  refine k_bipush (pc' := 3) h dX2_looks_1 rfl cb_m9 ?_
  refine k_icmp_eq (tgt := 14) (pc' := 6) h dX2_looks_3 rfl rfl (fun c1 => ?_) (fun c1 => ?_)
  · replace hf := if_t c1 hf
    refine k_iload_n (pc' := 15) h dX2_looks_14 rfl rfl 2 rfl ?_
    refine k_bipush (pc' := 17) h dX2_looks_15 rfl cb_m9 ?_
    refine k_icmp_eq (tgt := 28) (pc' := 20) h dX2_looks_17 rfl rfl (fun c2 => ?_) (fun c2 => ?_)
    · replace hf := if_t c2 hf
      refine k_iconst (pc' := 29) h dX2_looks_28 rfl ci_1 ?_
      refine k_goto (tgt := 33) h dX2_looks_29 rfl ?_
      exact k_zret h r dX2_looks_33 (by decide) (lf_i hf)
    · replace hf := if_f c2 hf
      refine k_iload_n (pc' := 21) h dX2_looks_20 rfl rfl 2 rfl ?_
      refine k_aload_n (pc' := 22) h dX2_looks_21 rfl rfl 0 rfl ?_
      refine k_get (v := .int (st.1 k 2)) (pc' := 25) h dX2_looks_22 rfl (bC_re hka hkb) fl_X2_22 rfl ?_
      refine k_icmp_ne (tgt := 32) (pc' := 28) h dX2_looks_25 rfl rfl (fun c3 => ?_) (fun c3 => ?_)
      · replace hf := if_f c3 hf
        refine k_iconst (pc' := 33) h dX2_looks_32 rfl ci_0 ?_
        exact k_zret h r dX2_looks_33 (by decide) (lf_i hf)
      · replace hf := if_t c3 hf
        refine k_iconst (pc' := 29) h dX2_looks_28 rfl ci_1 ?_
        refine k_goto (tgt := 33) h dX2_looks_29 rfl ?_
        exact k_zret h r dX2_looks_33 (by decide) (lf_i hf)
  · replace hf := if_f c1 hf
    refine k_iload_n (pc' := 7) h dX2_looks_6 rfl rfl 1 rfl ?_
    refine k_aload_n (pc' := 8) h dX2_looks_7 rfl rfl 0 rfl ?_
    refine k_get (v := .int (st.1 k 1)) (pc' := 11) h dX2_looks_8 rfl (bC_re hka hkb) fl_X2_19 rfl ?_
    refine k_icmp_ne (tgt := 32) (pc' := 14) h dX2_looks_11 rfl rfl (fun c4 => ?_) (fun c4 => ?_)
    · replace hf := if_f c4 hf
      refine k_iconst (pc' := 33) h dX2_looks_32 rfl ci_0 ?_
      exact k_zret h r dX2_looks_33 (by decide) (lf_i hf)
    · replace hf := if_t c4 hf
      refine k_iload_n (pc' := 15) h dX2_looks_14 rfl rfl 2 rfl ?_
      refine k_bipush (pc' := 17) h dX2_looks_15 rfl cb_m9 ?_
      refine k_icmp_eq (tgt := 28) (pc' := 20) h dX2_looks_17 rfl rfl (fun c5 => ?_) (fun c5 => ?_)
      · replace hf := if_t c5 hf
        refine k_iconst (pc' := 29) h dX2_looks_28 rfl ci_1 ?_
        refine k_goto (tgt := 33) h dX2_looks_29 rfl ?_
        exact k_zret h r dX2_looks_33 (by decide) (lf_i hf)
      · replace hf := if_f c5 hf
        refine k_iload_n (pc' := 21) h dX2_looks_20 rfl rfl 2 rfl ?_
        refine k_aload_n (pc' := 22) h dX2_looks_21 rfl rfl 0 rfl ?_
        refine k_get (v := .int (st.1 k 2)) (pc' := 25) h dX2_looks_22 rfl (bC_re hka hkb) fl_X2_22 rfl ?_
        refine k_icmp_ne (tgt := 32) (pc' := 28) h dX2_looks_25 rfl rfl (fun c6 => ?_) (fun c6 => ?_)
        · replace hf := if_f c6 hf
          refine k_iconst (pc' := 33) h dX2_looks_32 rfl ci_0 ?_
          exact k_zret h r dX2_looks_33 (by decide) (lf_i hf)
        · replace hf := if_t c6 hf
          refine k_iconst (pc' := 29) h dX2_looks_28 rfl ci_1 ?_
          refine k_goto (tgt := 33) h dX2_looks_29 rfl ?_
          exact k_zret h r dX2_looks_33 (by decide) (lf_i hf)
noncomputable def l_X2_souringThings_4 (p0 : Nat) (p1 : Int32) (v2 : Int32) (v3 : Int32) (st : St) : Option ((Int32 × Int32 × St) ⊕ (Int32 × Int32 × St)) :=
  (if (6 : Int32) ≤ v3 then (some (.inr (v2, v3, st))) else ((f_X2_isSouredBy p0 v3 p1 st).bind (fun q2 => (if q2.1 = 0 then (some (.inl (v2, v3 + (1 : Int32), q2.2))) else (some (.inl (v2 + (1 : Int32), v3 + (1 : Int32), q2.2)))))))
set_option maxHeartbeats 4000000 in
theorem w_X2_souringThings_4 {G : GG} {X : Cx} (h : Ok X (oC G) cX2_souringThings RX2 4 (RM 3))  (p0 : Nat) (p1 : Int32) (hp0a : 17 ≤ p0) (hp0b : p0 < 23) (n : Nat) (v2 : Int32) (v3 : Int32) (st : St) (q : Int32 × Int32 × St) (hq : iter (fun v : Int32 × Int32 × St => l_X2_souringThings_4 p0 p1 v.1 v.2.1 v.2.2) n (v2, v3, st) = some q) (kx : Wk X (oC G) 4 q.2.2 28 [(0, .ref (al (oC G) p0)), (1, .int p1), (2, .int q.1), (3, .int q.2.1)] []) : Wk X (oC G) 4 st 4 [(0, .ref (al (oC G) p0)), (1, .int p1), (2, .int v2), (3, .int v3)] [] := by
  refine iter_rule (hd := (fun v : Int32 × Int32 × St => Wk X (oC G) 4 v.2.2 4 [(0, .ref (al (oC G) p0)), (1, .int p1), (2, .int v.1), (3, .int v.2.1)] [])) (ex := (fun v : Int32 × Int32 × St => Wk X (oC G) 4 v.2.2 28 [(0, .ref (al (oC G) p0)), (1, .int p1), (2, .int v.1), (3, .int v.2.1)] [])) ?_ n (v2, v3, st) q hq kx
  rintro ⟨v2, v3, st⟩ oo hbv K
  show Wk X (oC G) 4 st 4 [(0, .ref (al (oC G) p0)), (1, .int p1), (2, .int v2), (3, .int v3)] []
  have hf : l_X2_souringThings_4 p0 p1 v2 v3 st = some oo := hbv
  unfold l_X2_souringThings_4 at hf
  refine k_iload_n (pc' := 5) h dX2_souringThings_4 rfl rfl 3 rfl ?_
  refine k_bipush (pc' := 7) h dX2_souringThings_5 rfl cb_6 ?_
  refine k_icmp_ge (tgt := 28) (pc' := 10) h dX2_souringThings_7 rfl rfl (fun c1 => ?_) (fun c1 => ?_)
  · replace hf := if_t c1 hf
    refine k_sub (lv' := [(0, .ref (al (oC G) p0)), (1, .int p1), (2, .int v2), (3, .int v3)]) [0, 1, 2, 3] rfl ?_
    exact lp_o hf K
  · replace hf := if_f c1 hf
    refine k_aload_n (pc' := 11) h dX2_souringThings_10 rfl rfl 0 rfl ?_
    refine k_iload_n (pc' := 12) h dX2_souringThings_11 rfl rfl 3 rfl ?_
    refine k_iload_n (pc' := 13) h dX2_souringThings_12 rfl rfl 1 rfl ?_
    obtain ⟨q2, hq2, hf⟩ := bd_s hf
    refine k_callV (As := [.int v3, .int p1]) (rest := []) (rv := some (.int q2.1)) (st' := q2.2) (stk' := [.int q2.1]) (pc' := 16) h dX2_souringThings_13 rfl ml_X2_59 wc_X2_isSouredBy wi_X2_isSouredBy ⟨Nat.le_of_ble_eq_true rfl, Nat.le_of_ble_eq_true rfl⟩ (bC_re hp0a hp0b) rfl rfl rfl rfl (Nat.le_of_ble_eq_true rfl) (fun l => c_X2_isSouredBy l p0 v3 p1 st hp0a hp0b _ _ hq2) rfl ?_
    refine k_if_eq (tgt := 22) (pc' := 19) h dX2_souringThings_16 rfl rfl (fun c3 => ?_) (fun c3 => ?_)
    · replace hf := if_t c3 hf
      refine k_iinc (lv' := [(0, .ref (al (oC G) p0)), (1, .int p1), (2, .int v2), (3, .int (v3 + (1 : Int32)))]) (pc' := 25) h dX2_souringThings_22 rfl 3 rfl (congrArg (fun z => v3 + z) ci_1) (Nat.le_of_ble_eq_true rfl) [1, 2, 3, 0] rfl ?_
      refine k_goto (tgt := 4) h dX2_souringThings_25 rfl ?_
      refine k_sub (lv' := [(0, .ref (al (oC G) p0)), (1, .int p1), (2, .int v2), (3, .int (v3 + (1 : Int32)))]) [0, 1, 2, 3] rfl ?_
      exact lp_o hf K
    · replace hf := if_f c3 hf
      refine k_iinc (lv' := [(0, .ref (al (oC G) p0)), (1, .int p1), (2, .int (v2 + (1 : Int32))), (3, .int v3)]) (pc' := 22) h dX2_souringThings_19 rfl 2 rfl (congrArg (fun z => v2 + z) ci_1) (Nat.le_of_ble_eq_true rfl) [1, 2, 0, 3] rfl ?_
      refine k_iinc (lv' := [(0, .ref (al (oC G) p0)), (1, .int p1), (2, .int (v2 + (1 : Int32))), (3, .int (v3 + (1 : Int32)))]) (pc' := 25) h dX2_souringThings_22 rfl 3 rfl (congrArg (fun z => v3 + z) ci_1) (Nat.le_of_ble_eq_true rfl) [1, 2, 3, 0] rfl ?_
      refine k_goto (tgt := 4) h dX2_souringThings_25 rfl ?_
      refine k_sub (lv' := [(0, .ref (al (oC G) p0)), (1, .int p1), (2, .int (v2 + (1 : Int32))), (3, .int (v3 + (1 : Int32)))]) [0, 1, 2, 3] rfl ?_
      exact lp_o hf K
noncomputable def f_X2_souringThings (k : Nat) (x0 : Int32) (st : St) : Option (Int32 × St) :=
  ((iter (fun v : Int32 × Int32 × St => l_X2_souringThings_4 k x0 v.1 v.2.1 v.2.2) fuel ((0 : Int32), (0 : Int32), st)).bind (fun q4 => (some (q4.1, q4.2.2))))
set_option maxHeartbeats 4000000 in
theorem c_X2_souringThings {G : GG} (l : Launch) (k : Nat) (x0 : Int32) (st : St) (hka : 17 ≤ k) (hkb : k < 23) (rr : Int32) (st' : St) (hf : f_X2_souringThings k x0 st = some (rr, st')) : MM l yX2_souringThings cX2_souringThings 4 (some .int) 3 (oC G) [.ref (al (oC G) k), .int x0] st (some (.int rr)) st' := by
  refine mk_MM (by decide +kernel) (Nat.le_of_ble_eq_true rfl) (fun X h r => ?_)
  refine k_sub (lv' := [(0, .ref (al (oC G) k)), (1, .int x0)]) [0, 1] rfl ?_
  unfold f_X2_souringThings at hf
  refine k_iconst (pc' := 1) h dX2_souringThings_0 rfl ci_0 ?_
  refine k_istore_n (lv' := [(0, .ref (al (oC G) k)), (1, .int x0), (2, .int (0 : Int32))]) (pc' := 2) h dX2_souringThings_1 rfl rfl (Nat.le_of_ble_eq_true rfl) [1, 2, 0] rfl ?_
  refine k_iconst (pc' := 3) h dX2_souringThings_2 rfl ci_0 ?_
  refine k_istore_n (lv' := [(0, .ref (al (oC G) k)), (1, .int x0), (2, .int (0 : Int32)), (3, .int (0 : Int32))]) (pc' := 4) h dX2_souringThings_3 rfl rfl (Nat.le_of_ble_eq_true rfl) [1, 2, 3, 0] rfl ?_
  obtain ⟨q4, hq4, hf⟩ := bd_s hf
  refine w_X2_souringThings_4 h k x0 hka hkb fuel (0 : Int32) (0 : Int32) st q4 hq4 ?_
  refine k_iload_n (pc' := 29) h dX2_souringThings_28 rfl rfl 2 rfl ?_
  exact k_iret h r dX2_souringThings_29 (lf_i hf)
noncomputable def l_X2_morningsToChange_2 (p0 : Nat) (p1 : Int32) (v2 : Int32) (st : St) : Option ((Int32 × St) ⊕ ((Int32 × St) ⊕ (Int32 × St))) :=
  (if (9 : Int32) < v2 then (some (.inr (.inr (v2, st)))) else ((f_X2_wantOn p0 (p1 + v2) st).bind (fun q2 => ((f_X2_wantOn p0 p1 q2.2).bind (fun q3 => (if q2.1 = q3.1 then (some (.inl (v2 + (1 : Int32), q3.2))) else (some (.inr (.inl (v2, q3.2))))))))))
set_option maxHeartbeats 4000000 in
theorem w_X2_morningsToChange_2 {G : GG} {X : Cx} (h : Ok X (oC G) cX2_morningsToChange RX2 3 (RM 2)) {P : Option Value → St → Prop} (r : Rt X (oC G) P (some .int)) (p0 : Nat) (p1 : Int32) (hp0a : 17 ≤ p0) (hp0b : p0 < 23) (n : Nat) (v2 : Int32) (st : St) (q : (Int32 × St) ⊕ (Int32 × St)) (hq : iter (fun v : Int32 × St => l_X2_morningsToChange_2 p0 p1 v.1 v.2) n (v2, st) = some q) (kr : ∀ rs, q = .inl rs → P (some (.int rs.1)) rs.2) (kx : ∀ v : Int32 × St, q = .inr v → Wk X (oC G) 3 v.2 31 [(0, .ref (al (oC G) p0)), (1, .int p1), (2, .int v.1)] []) : Wk X (oC G) 3 st 2 [(0, .ref (al (oC G) p0)), (1, .int p1), (2, .int v2)] [] := by
  refine iter_rule (hd := (fun v : Int32 × St => Wk X (oC G) 3 v.2 2 [(0, .ref (al (oC G) p0)), (1, .int p1), (2, .int v.1)] [])) (ex := (Sum.elim (fun rs : Int32 × St => P (some (.int rs.1)) rs.2) (fun v : Int32 × St => Wk X (oC G) 3 v.2 31 [(0, .ref (al (oC G) p0)), (1, .int p1), (2, .int v.1)] []))) ?_ n (v2, st) q hq (by cases q with
    | inl rs => exact kr rs rfl
    | inr v => exact kx v rfl)
  rintro ⟨v2, st⟩ oo hbv K
  show Wk X (oC G) 3 st 2 [(0, .ref (al (oC G) p0)), (1, .int p1), (2, .int v2)] []
  have hf : l_X2_morningsToChange_2 p0 p1 v2 st = some oo := hbv
  unfold l_X2_morningsToChange_2 at hf
  refine k_iload_n (pc' := 3) h dX2_morningsToChange_2 rfl rfl 2 rfl ?_
  refine k_bipush (pc' := 5) h dX2_morningsToChange_3 rfl cb_9 ?_
  refine k_icmp_gt (tgt := 31) (pc' := 8) h dX2_morningsToChange_5 rfl rfl (fun c1 => ?_) (fun c1 => ?_)
  · replace hf := if_t c1 hf
    refine k_sub (lv' := [(0, .ref (al (oC G) p0)), (1, .int p1), (2, .int v2)]) [0, 1, 2] rfl ?_
    exact lp_o hf K
  · replace hf := if_f c1 hf
    refine k_aload_n (pc' := 9) h dX2_morningsToChange_8 rfl rfl 0 rfl ?_
    refine k_iload_n (pc' := 10) h dX2_morningsToChange_9 rfl rfl 1 rfl ?_
    refine k_iload_n (pc' := 11) h dX2_morningsToChange_10 rfl rfl 2 rfl ?_
    refine k_iadd (pc' := 12) h dX2_morningsToChange_11 rfl ?_
    obtain ⟨q2, hq2, hf⟩ := bd_s hf
    refine k_callV (As := [.int (p1 + v2)]) (rest := []) (rv := some (.int q2.1)) (st' := q2.2) (stk' := [.int q2.1]) (pc' := 15) h dX2_morningsToChange_12 rfl ml_X2_53 wc_X2_wantOn wi_X2_wantOn ⟨Nat.le_of_ble_eq_true rfl, Nat.le_of_ble_eq_true rfl⟩ (bC_re hp0a hp0b) rfl rfl rfl rfl (Nat.le_of_ble_eq_true rfl) (fun l => c_X2_wantOn l p0 (p1 + v2) st hp0a hp0b _ _ hq2) rfl ?_
    refine k_aload_n (pc' := 16) h dX2_morningsToChange_15 rfl rfl 0 rfl ?_
    refine k_iload_n (pc' := 17) h dX2_morningsToChange_16 rfl rfl 1 rfl ?_
    obtain ⟨q3, hq3, hf⟩ := bd_s hf
    refine k_callV (As := [.int p1]) (rest := [.int q2.1]) (rv := some (.int q3.1)) (st' := q3.2) (stk' := [.int q3.1, .int q2.1]) (pc' := 20) h dX2_morningsToChange_17 rfl ml_X2_53 wc_X2_wantOn wi_X2_wantOn ⟨Nat.le_of_ble_eq_true rfl, Nat.le_of_ble_eq_true rfl⟩ (bC_re hp0a hp0b) rfl rfl rfl rfl (Nat.le_of_ble_eq_true rfl) (fun l => c_X2_wantOn l p0 p1 q2.2 hp0a hp0b _ _ hq3) rfl ?_
    refine k_icmp_eq (tgt := 25) (pc' := 23) h dX2_morningsToChange_20 rfl rfl (fun c4 => ?_) (fun c4 => ?_)
    · replace hf := if_t c4 hf
      refine k_iinc (lv' := [(0, .ref (al (oC G) p0)), (1, .int p1), (2, .int (v2 + (1 : Int32)))]) (pc' := 28) h dX2_morningsToChange_25 rfl 2 rfl (congrArg (fun z => v2 + z) ci_1) (Nat.le_of_ble_eq_true rfl) [1, 2, 0] rfl ?_
      refine k_goto (tgt := 2) h dX2_morningsToChange_28 rfl ?_
      refine k_sub (lv' := [(0, .ref (al (oC G) p0)), (1, .int p1), (2, .int (v2 + (1 : Int32)))]) [0, 1, 2] rfl ?_
      exact lp_o hf K
    · replace hf := if_f c4 hf
      refine k_iload_n (pc' := 24) h dX2_morningsToChange_23 rfl rfl 2 rfl ?_
      exact k_iret h r dX2_morningsToChange_24 (lp_o hf K)
noncomputable def f_X2_morningsToChange (k : Nat) (x0 : Int32) (st : St) : Option (Int32 × St) :=
  ((iter (fun v : Int32 × St => l_X2_morningsToChange_2 k x0 v.1 v.2) fuel ((1 : Int32), st)).bind (fun q5 => Sum.elim (fun rs7 => some rs7) (fun v6 => (some ((-9 : Int32), v6.2))) q5))
set_option maxHeartbeats 4000000 in
theorem c_X2_morningsToChange {G : GG} (l : Launch) (k : Nat) (x0 : Int32) (st : St) (hka : 17 ≤ k) (hkb : k < 23) (rr : Int32) (st' : St) (hf : f_X2_morningsToChange k x0 st = some (rr, st')) : MM l yX2_morningsToChange cX2_morningsToChange 3 (some .int) 2 (oC G) [.ref (al (oC G) k), .int x0] st (some (.int rr)) st' := by
  refine mk_MM (by decide +kernel) (Nat.le_of_ble_eq_true rfl) (fun X h r => ?_)
  refine k_sub (lv' := [(0, .ref (al (oC G) k)), (1, .int x0)]) [0, 1] rfl ?_
  unfold f_X2_morningsToChange at hf
  refine k_iconst (pc' := 1) h dX2_morningsToChange_0 rfl ci_1 ?_
  refine k_istore_n (lv' := [(0, .ref (al (oC G) k)), (1, .int x0), (2, .int (1 : Int32))]) (pc' := 2) h dX2_morningsToChange_1 rfl rfl (Nat.le_of_ble_eq_true rfl) [1, 2, 0] rfl ?_
  obtain ⟨q5, hq5, hf⟩ := bd_s hf
  refine w_X2_morningsToChange_2 h r k x0 hka hkb fuel (1 : Int32) st q5 hq5 (fun rs7 ers7 => ?_) (fun v6 ev6 => ?_)
  · subst ers7
    exact lf_i hf
  · subst ev6
    replace hf := sel_r hf
    refine k_bipush (pc' := 33) h dX2_morningsToChange_31 rfl cb_m9 ?_
    exact k_iret h r dX2_morningsToChange_33 (lf_i hf)
noncomputable def l_X2_otherMornings_4 (p0 : Nat) (p1 : Int32) (v2 : Int32) (v3 : Int32) (st : St) : Option ((Int32 × Int32 × St) ⊕ (Int32 × Int32 × St)) :=
  (if p1 ≤ v3 then (some (.inr (v2, v3, st))) else ((f_X2_wantOn p0 v3 st).bind (fun q2 => (if q2.1 = (q2.2.1 p0 4) then (some (.inl (v2 + (1 : Int32), v3 + (1 : Int32), q2.2))) else (some (.inl (v2, v3 + (1 : Int32), q2.2)))))))
set_option maxHeartbeats 4000000 in
theorem w_X2_otherMornings_4 {G : GG} {X : Cx} (h : Ok X (oC G) cX2_otherMornings RX2 4 (RM 2))  (p0 : Nat) (p1 : Int32) (hp0a : 17 ≤ p0) (hp0b : p0 < 23) (n : Nat) (v2 : Int32) (v3 : Int32) (st : St) (q : Int32 × Int32 × St) (hq : iter (fun v : Int32 × Int32 × St => l_X2_otherMornings_4 p0 p1 v.1 v.2.1 v.2.2) n (v2, v3, st) = some q) (kx : Wk X (oC G) 4 q.2.2 30 [(0, .ref (al (oC G) p0)), (1, .int p1), (2, .int q.1), (3, .int q.2.1)] []) : Wk X (oC G) 4 st 4 [(0, .ref (al (oC G) p0)), (1, .int p1), (2, .int v2), (3, .int v3)] [] := by
  refine iter_rule (hd := (fun v : Int32 × Int32 × St => Wk X (oC G) 4 v.2.2 4 [(0, .ref (al (oC G) p0)), (1, .int p1), (2, .int v.1), (3, .int v.2.1)] [])) (ex := (fun v : Int32 × Int32 × St => Wk X (oC G) 4 v.2.2 30 [(0, .ref (al (oC G) p0)), (1, .int p1), (2, .int v.1), (3, .int v.2.1)] [])) ?_ n (v2, v3, st) q hq kx
  rintro ⟨v2, v3, st⟩ oo hbv K
  show Wk X (oC G) 4 st 4 [(0, .ref (al (oC G) p0)), (1, .int p1), (2, .int v2), (3, .int v3)] []
  have hf : l_X2_otherMornings_4 p0 p1 v2 v3 st = some oo := hbv
  unfold l_X2_otherMornings_4 at hf
  refine k_iload_n (pc' := 5) h dX2_otherMornings_4 rfl rfl 3 rfl ?_
  refine k_iload_n (pc' := 6) h dX2_otherMornings_5 rfl rfl 1 rfl ?_
  refine k_icmp_ge (tgt := 30) (pc' := 9) h dX2_otherMornings_6 rfl rfl (fun c1 => ?_) (fun c1 => ?_)
  · replace hf := if_t c1 hf
    refine k_sub (lv' := [(0, .ref (al (oC G) p0)), (1, .int p1), (2, .int v2), (3, .int v3)]) [0, 1, 2, 3] rfl ?_
    exact lp_o hf K
  · replace hf := if_f c1 hf
    refine k_aload_n (pc' := 10) h dX2_otherMornings_9 rfl rfl 0 rfl ?_
    refine k_iload_n (pc' := 11) h dX2_otherMornings_10 rfl rfl 3 rfl ?_
    obtain ⟨q2, hq2, hf⟩ := bd_s hf
    refine k_callV (As := [.int v3]) (rest := []) (rv := some (.int q2.1)) (st' := q2.2) (stk' := [.int q2.1]) (pc' := 14) h dX2_otherMornings_11 rfl ml_X2_53 wc_X2_wantOn wi_X2_wantOn ⟨Nat.le_of_ble_eq_true rfl, Nat.le_of_ble_eq_true rfl⟩ (bC_re hp0a hp0b) rfl rfl rfl rfl (Nat.le_of_ble_eq_true rfl) (fun l => c_X2_wantOn l p0 v3 st hp0a hp0b _ _ hq2) rfl ?_
    refine k_aload_n (pc' := 15) h dX2_otherMornings_14 rfl rfl 0 rfl ?_
    refine k_get (v := .int (q2.2.1 p0 4)) (pc' := 18) h dX2_otherMornings_15 rfl (bC_re hp0a hp0b) fl_X2_28 rfl ?_
    refine k_icmp_ne (tgt := 24) (pc' := 21) h dX2_otherMornings_18 rfl rfl (fun c3 => ?_) (fun c3 => ?_)
    · replace hf := if_f c3 hf
      refine k_iinc (lv' := [(0, .ref (al (oC G) p0)), (1, .int p1), (2, .int v2), (3, .int (v3 + (1 : Int32)))]) (pc' := 27) h dX2_otherMornings_24 rfl 3 rfl (congrArg (fun z => v3 + z) ci_1) (Nat.le_of_ble_eq_true rfl) [1, 2, 3, 0] rfl ?_
      refine k_goto (tgt := 4) h dX2_otherMornings_27 rfl ?_
      refine k_sub (lv' := [(0, .ref (al (oC G) p0)), (1, .int p1), (2, .int v2), (3, .int (v3 + (1 : Int32)))]) [0, 1, 2, 3] rfl ?_
      exact lp_o hf K
    · replace hf := if_t c3 hf
      refine k_iinc (lv' := [(0, .ref (al (oC G) p0)), (1, .int p1), (2, .int (v2 + (1 : Int32))), (3, .int v3)]) (pc' := 24) h dX2_otherMornings_21 rfl 2 rfl (congrArg (fun z => v2 + z) ci_1) (Nat.le_of_ble_eq_true rfl) [1, 2, 0, 3] rfl ?_
      refine k_iinc (lv' := [(0, .ref (al (oC G) p0)), (1, .int p1), (2, .int (v2 + (1 : Int32))), (3, .int (v3 + (1 : Int32)))]) (pc' := 27) h dX2_otherMornings_24 rfl 3 rfl (congrArg (fun z => v3 + z) ci_1) (Nat.le_of_ble_eq_true rfl) [1, 2, 3, 0] rfl ?_
      refine k_goto (tgt := 4) h dX2_otherMornings_27 rfl ?_
      refine k_sub (lv' := [(0, .ref (al (oC G) p0)), (1, .int p1), (2, .int (v2 + (1 : Int32))), (3, .int (v3 + (1 : Int32)))]) [0, 1, 2, 3] rfl ?_
      exact lp_o hf K
noncomputable def f_X2_otherMornings (k : Nat) (x0 : Int32) (st : St) : Option (Int32 × St) :=
  ((iter (fun v : Int32 × Int32 × St => l_X2_otherMornings_4 k x0 v.1 v.2.1 v.2.2) fuel ((0 : Int32), (0 : Int32), st)).bind (fun q4 => (some (q4.1, q4.2.2))))
set_option maxHeartbeats 4000000 in
theorem c_X2_otherMornings {G : GG} (l : Launch) (k : Nat) (x0 : Int32) (st : St) (hka : 17 ≤ k) (hkb : k < 23) (rr : Int32) (st' : St) (hf : f_X2_otherMornings k x0 st = some (rr, st')) : MM l yX2_otherMornings cX2_otherMornings 4 (some .int) 2 (oC G) [.ref (al (oC G) k), .int x0] st (some (.int rr)) st' := by
  refine mk_MM (by decide +kernel) (Nat.le_of_ble_eq_true rfl) (fun X h r => ?_)
  refine k_sub (lv' := [(0, .ref (al (oC G) k)), (1, .int x0)]) [0, 1] rfl ?_
  unfold f_X2_otherMornings at hf
  refine k_iconst (pc' := 1) h dX2_otherMornings_0 rfl ci_0 ?_
  refine k_istore_n (lv' := [(0, .ref (al (oC G) k)), (1, .int x0), (2, .int (0 : Int32))]) (pc' := 2) h dX2_otherMornings_1 rfl rfl (Nat.le_of_ble_eq_true rfl) [1, 2, 0] rfl ?_
  refine k_iconst (pc' := 3) h dX2_otherMornings_2 rfl ci_0 ?_
  refine k_istore_n (lv' := [(0, .ref (al (oC G) k)), (1, .int x0), (2, .int (0 : Int32)), (3, .int (0 : Int32))]) (pc' := 4) h dX2_otherMornings_3 rfl rfl (Nat.le_of_ble_eq_true rfl) [1, 2, 3, 0] rfl ?_
  obtain ⟨q4, hq4, hf⟩ := bd_s hf
  refine w_X2_otherMornings_4 h k x0 hka hkb fuel (0 : Int32) (0 : Int32) st q4 hq4 ?_
  refine k_iload_n (pc' := 31) h dX2_otherMornings_30 rfl rfl 2 rfl ?_
  exact k_iret h r dX2_otherMornings_31 (lf_i hf)
noncomputable def l_X3_open_7 (p1 : Nat) (p2 : Int32) (v3 : Int32) (st : St) : Option ((Int32 × St) ⊕ (Int32 × St)) :=
  (if p2 < (v3 + (6 : Int32)) then (some (.inr (v3, st))) else (if (6 : Int32) ≤ (st.1 15 2) then (some (.inr (v3, st))) else (gd (inb v3 60) (if (st.1 p1 v3.toNatClampNeg) = (32 : Int32) then (some (.inl (v3 + (1 : Int32), st))) else (gd (inb (st.1 15 2) 6) ((f_X2_become (17 + (st.1 15 2).toNatClampNeg) p1 v3 st).bind (fun q7 => (ls (sA q7 15 (upd (q7.1 15) 2 ((q7.1 15 2) + (1 : Int32)))) (fun s8 => (some (.inl (v3 + (6 : Int32), s8))))))))))))
set_option maxHeartbeats 4000000 in
theorem w_X3_open_7 {G : GG} {X : Cx} (h : Ok X (oC G) cX3_open RX3 4 (RM 6))  (p1 : Nat) (p2 : Int32) (hp1a : 10 ≤ p1) (hp1b : p1 < 14) (n : Nat) (v3 : Int32) (st : St) (q : Int32 × St) (hq : iter (fun v : Int32 × St => l_X3_open_7 p1 p2 v.1 v.2) n (v3, st) = some q) (kx : Wk X (oC G) 4 q.2 68 [(0, .ref (al (oC G) 15)), (1, .ref (al (oC G) p1)), (2, .int p2), (3, .int q.1)] []) : Wk X (oC G) 4 st 7 [(0, .ref (al (oC G) 15)), (1, .ref (al (oC G) p1)), (2, .int p2), (3, .int v3)] [] := by
  refine iter_rule (hd := (fun v : Int32 × St => Wk X (oC G) 4 v.2 7 [(0, .ref (al (oC G) 15)), (1, .ref (al (oC G) p1)), (2, .int p2), (3, .int v.1)] [])) (ex := (fun v : Int32 × St => Wk X (oC G) 4 v.2 68 [(0, .ref (al (oC G) 15)), (1, .ref (al (oC G) p1)), (2, .int p2), (3, .int v.1)] [])) ?_ n (v3, st) q hq kx
  rintro ⟨v3, st⟩ oo hbv K
  show Wk X (oC G) 4 st 7 [(0, .ref (al (oC G) 15)), (1, .ref (al (oC G) p1)), (2, .int p2), (3, .int v3)] []
  have hf : l_X3_open_7 p1 p2 v3 st = some oo := hbv
  unfold l_X3_open_7 at hf
  refine k_iload_n (pc' := 8) h dX3_open_7 rfl rfl 3 rfl ?_
  refine k_bipush (pc' := 10) h dX3_open_8 rfl cb_6 ?_
  refine k_iadd (pc' := 11) h dX3_open_10 rfl ?_
  refine k_iload_n (pc' := 12) h dX3_open_11 rfl rfl 2 rfl ?_
  refine k_icmp_gt (tgt := 68) (pc' := 15) h dX3_open_12 rfl rfl (fun c2 => ?_) (fun c2 => ?_)
  · replace hf := if_t c2 hf
    refine k_sub (lv' := [(0, .ref (al (oC G) 15)), (1, .ref (al (oC G) p1)), (2, .int p2), (3, .int v3)]) [0, 1, 2, 3] rfl ?_
    exact lp_o hf K
  · replace hf := if_f c2 hf
    refine k_aload_n (pc' := 16) h dX3_open_15 rfl rfl 0 rfl ?_
    refine k_get (v := .int (st.1 15 2)) (pc' := 19) h dX3_open_16 rfl bC_sh fl_X3_25 rfl ?_
    refine k_bipush (pc' := 21) h dX3_open_19 rfl cb_6 ?_
    refine k_icmp_ge (tgt := 68) (pc' := 24) h dX3_open_21 rfl rfl (fun c3 => ?_) (fun c3 => ?_)
    · replace hf := if_t c3 hf
      refine k_sub (lv' := [(0, .ref (al (oC G) 15)), (1, .ref (al (oC G) p1)), (2, .int p2), (3, .int v3)]) [0, 1, 2, 3] rfl ?_
      exact lp_o hf K
    · replace hf := if_f c3 hf
      refine k_aload_n (pc' := 25) h dX3_open_24 rfl rfl 1 rfl ?_
      refine k_iload_n (pc' := 26) h dX3_open_25 rfl rfl 3 rfl ?_
      have g4 := gd_1 hf
      replace hf := gd_2 hf
      refine k_bald (pc' := 27) h dX3_open_26 rfl (aC_text hp1a hp1b) g4 ?_
      refine k_bipush (pc' := 29) h dX3_open_27 rfl cb_32 ?_
      refine k_icmp_ne (tgt := 38) (pc' := 32) h dX3_open_29 rfl rfl (fun c5 => ?_) (fun c5 => ?_)
      · replace hf := if_f c5 hf
        refine k_aload_n (pc' := 39) h dX3_open_38 rfl rfl 0 rfl ?_
        refine k_get (v := .ref (al (oC G) 16)) (pc' := 42) h dX3_open_39 rfl bC_sh fl_X3_11 rfl ?_
        refine k_aload_n (pc' := 43) h dX3_open_42 rfl rfl 0 rfl ?_
        refine k_get (v := .int (st.1 15 2)) (pc' := 46) h dX3_open_43 rfl bC_sh fl_X3_25 rfl ?_
        have g6 := gd_1 hf
        replace hf := gd_2 hf
        refine k_aald (tt := .object "TheUsual$Regular") (pc' := 47) h dX3_open_46 rfl rC_regs rfl rfl g6 ?_
        refine k_aload_n (pc' := 48) h dX3_open_47 rfl rfl 1 rfl ?_
        refine k_iload_n (pc' := 49) h dX3_open_48 rfl rfl 3 rfl ?_
        obtain ⟨q7, hq7, hf⟩ := bd_s hf
        refine k_callV (As := [.ref (al (oC G) p1), .int v3]) (rest := []) (rv := none) (st' := q7) (stk' := []) (pc' := 52) h dX3_open_49 rfl ml_X3_29 wc_X2_become wi_X2_become ⟨Nat.le_of_ble_eq_true rfl, Nat.le_of_ble_eq_true rfl⟩ (bC_re (Nat.le_add_right 17 (st.1 15 2).toNatClampNeg) (Nat.add_lt_add_left (inb_lt g6) 17)) rfl rfl rfl rfl (Nat.le_of_ble_eq_true rfl) (fun l => c_X2_become l (17 + (st.1 15 2).toNatClampNeg) p1 v3 st (Nat.le_add_right 17 (st.1 15 2).toNatClampNeg) (Nat.add_lt_add_left (inb_lt g6) 17) hp1a hp1b _ hq7) rfl ?_
        refine k_aload_n (pc' := 53) h dX3_open_52 rfl rfl 0 rfl ?_
        refine k_dup (pc' := 54) h dX3_open_53 rfl rfl ?_
        refine k_get (v := .int (q7.1 15 2)) (pc' := 57) h dX3_open_54 rfl bC_sh fl_X3_25 rfl ?_
        refine k_iconst (pc' := 58) h dX3_open_57 rfl ci_1 ?_
        refine k_iadd (pc' := 59) h dX3_open_58 rfl ?_
        refine k_put (pc' := 62) h dX3_open_59 rfl bC_sh fp_X3_25 sf_sh_2 sj_sh_2 ?_
        obtain ⟨s8, hs8, hf⟩ := ls_s hf
        refine k_st hs8 ?_
        refine k_iinc (lv' := [(0, .ref (al (oC G) 15)), (1, .ref (al (oC G) p1)), (2, .int p2), (3, .int (v3 + (6 : Int32)))]) (pc' := 65) h dX3_open_62 rfl 3 rfl (congrArg (fun z => v3 + z) ci_6) (Nat.le_of_ble_eq_true rfl) [1, 2, 3, 0] rfl ?_
        refine k_goto (tgt := 7) h dX3_open_65 rfl ?_
        refine k_sub (lv' := [(0, .ref (al (oC G) 15)), (1, .ref (al (oC G) p1)), (2, .int p2), (3, .int (v3 + (6 : Int32)))]) [0, 1, 2, 3] rfl ?_
        exact lp_o hf K
      · replace hf := if_t c5 hf
        refine k_iinc (lv' := [(0, .ref (al (oC G) 15)), (1, .ref (al (oC G) p1)), (2, .int p2), (3, .int (v3 + (1 : Int32)))]) (pc' := 35) h dX3_open_32 rfl 3 rfl (congrArg (fun z => v3 + z) ci_1) (Nat.le_of_ble_eq_true rfl) [1, 2, 3, 0] rfl ?_
        refine k_goto (tgt := 7) h dX3_open_35 rfl ?_
        refine k_sub (lv' := [(0, .ref (al (oC G) 15)), (1, .ref (al (oC G) p1)), (2, .int p2), (3, .int (v3 + (1 : Int32)))]) [0, 1, 2, 3] rfl ?_
        exact lp_o hf K
noncomputable def f_X3_open (k0 : Nat) (x1 : Int32) (st : St) : Option (St) :=
  (ls (sA st 15 (upd (st.1 15) 2 (0 : Int32))) (fun s1 => ((iter (fun v : Int32 × St => l_X3_open_7 k0 x1 v.1 v.2) fuel ((0 : Int32), s1)).bind (fun q9 => ((f_X3_goThrough (0 : Int32) q9.2).bind (fun q10 => (some q10)))))))
set_option maxHeartbeats 4000000 in
theorem c_X3_open {G : GG} (l : Launch) (k0 : Nat) (x1 : Int32) (st : St) (hk0a : 10 ≤ k0) (hk0b : k0 < 14) (st' : St) (hf : f_X3_open k0 x1 st = some st') : MM l yX3_open cX3_open 4 none 6 (oC G) [.ref (al (oC G) 15), .ref (al (oC G) k0), .int x1] st none st' := by
  refine mk_MM (by decide +kernel) (Nat.le_of_ble_eq_true rfl) (fun X h r => ?_)
  refine k_sub (lv' := [(0, .ref (al (oC G) 15)), (1, .ref (al (oC G) k0)), (2, .int x1)]) [0, 1, 2] rfl ?_
  unfold f_X3_open at hf
  refine k_aload_n (pc' := 1) h dX3_open_0 rfl rfl 0 rfl ?_
  refine k_iconst (pc' := 2) h dX3_open_1 rfl ci_0 ?_
  refine k_put (pc' := 5) h dX3_open_2 rfl bC_sh fp_X3_25 sf_sh_2 sj_sh_2 ?_
  obtain ⟨s1, hs1, hf⟩ := ls_s hf
  refine k_st hs1 ?_
  refine k_iconst (pc' := 6) h dX3_open_5 rfl ci_0 ?_
  refine k_istore_n (lv' := [(0, .ref (al (oC G) 15)), (1, .ref (al (oC G) k0)), (2, .int x1), (3, .int (0 : Int32))]) (pc' := 7) h dX3_open_6 rfl rfl (Nat.le_of_ble_eq_true rfl) [1, 2, 3, 0] rfl ?_
  obtain ⟨q9, hq9, hf⟩ := bd_s hf
  refine w_X3_open_7 h k0 x1 hk0a hk0b fuel (0 : Int32) s1 q9 hq9 ?_
  refine k_aload_n (pc' := 69) h dX3_open_68 rfl rfl 0 rfl ?_
  refine k_iconst (pc' := 70) h dX3_open_69 rfl ci_0 ?_
  obtain ⟨q10, hq10, hf⟩ := bd_s hf
  refine k_callV (As := [.int (0 : Int32)]) (rest := []) (rv := none) (st' := q10) (stk' := []) (pc' := 73) h dX3_open_70 rfl ml_X3_33 wc_X3_goThrough wi_X3_goThrough ⟨Nat.le_of_ble_eq_true rfl, Nat.le_of_ble_eq_true rfl⟩ bC_sh rfl rfl rfl rfl (Nat.le_of_ble_eq_true rfl) (fun l => c_X3_goThrough l (0 : Int32) q9.2  _ hq10) rfl ?_
  exact k_vret h r dX3_open_73 (lf_v hf)
noncomputable def f_X4_write (k : Nat) (x0 : Int32) (x1 : Int32) (st : St) : Option (St) :=
  (if (60 : Int32) ≤ (st.1 k 2) then (some st) else (gd (inb (st.1 k 2) 60) (ls (sA st (k + 4) (upd (st.1 (k + 4)) (st.1 k 2).toNatClampNeg x0)) (fun s4 => (gd (inb (s4.1 k 2) 60) (ls (sA s4 (k + 8) (upd (s4.1 (k + 8)) (s4.1 k 2).toNatClampNeg x1)) (fun s7 => (ls (sA s7 k (upd (s7.1 k) 2 ((s7.1 k 2) + (1 : Int32)))) (fun s8 => (some s8))))))))))
set_option maxHeartbeats 4000000 in
theorem c_X4_write {G : GG} (l : Launch) (k : Nat) (x0 : Int32) (x1 : Int32) (st : St) (hka : 30 ≤ k) (hkb : k < 34) (st' : St) (hf : f_X4_write k x0 x1 st = some st') : MM l yX4_write cX4_write 3 none 0 (oC G) [.ref (al (oC G) k), .int x0, .int x1] st none st' := by
  refine mk_MM (by decide +kernel) (Nat.le_of_ble_eq_true rfl) (fun X h r => ?_)
  refine k_sub (lv' := [(0, .ref (al (oC G) k)), (1, .int x0), (2, .int x1)]) [0, 1, 2] rfl ?_
  unfold f_X4_write at hf
  refine k_aload_n (pc' := 1) h dX4_write_0 rfl rfl 0 rfl ?_
  refine k_get (v := .int (st.1 k 2)) (pc' := 4) h dX4_write_1 rfl (bC_tu hka hkb) fl_X4_18 rfl ?_
  refine k_bipush (pc' := 6) h dX4_write_4 rfl cb_60 ?_
  refine k_icmp_ge (tgt := 39) (pc' := 9) h dX4_write_6 rfl rfl (fun c1 => ?_) (fun c1 => ?_)
  · replace hf := if_t c1 hf
    exact k_vret h r dX4_write_39 (lf_v hf)
  · replace hf := if_f c1 hf
    refine k_aload_n (pc' := 10) h dX4_write_9 rfl rfl 0 rfl ?_
    have z2a : 34 ≤ k + 4 := by have := hka; omega
    have z2b : k + 4 < 42 := by have := hkb; omega
    refine k_get (v := .ref (al (oC G) (k + 4))) (pc' := 13) h dX4_write_10 rfl (bC_tu hka hkb) fl_X4_9 rfl ?_
    refine k_aload_n (pc' := 14) h dX4_write_13 rfl rfl 0 rfl ?_
    refine k_get (v := .int (st.1 k 2)) (pc' := 17) h dX4_write_14 rfl (bC_tu hka hkb) fl_X4_18 rfl ?_
    refine k_iload_n (pc' := 18) h dX4_write_17 rfl rfl 1 rfl ?_
    have g3 := gd_1 hf
    replace hf := gd_2 hf
    refine k_iast (pc' := 19) h dX4_write_18 rfl (aC_wl z2a z2b) g3 ?_
    obtain ⟨s4, hs4, hf⟩ := ls_s hf
    refine k_st hs4 ?_
    refine k_aload_n (pc' := 20) h dX4_write_19 rfl rfl 0 rfl ?_
    have z5a : 34 ≤ k + 8 := by have := hka; omega
    have z5b : k + 8 < 42 := by have := hkb; omega
    refine k_get (v := .ref (al (oC G) (k + 8))) (pc' := 23) h dX4_write_20 rfl (bC_tu hka hkb) fl_X4_15 rfl ?_
    refine k_aload_n (pc' := 24) h dX4_write_23 rfl rfl 0 rfl ?_
    refine k_get (v := .int (s4.1 k 2)) (pc' := 27) h dX4_write_24 rfl (bC_tu hka hkb) fl_X4_18 rfl ?_
    refine k_iload_n (pc' := 28) h dX4_write_27 rfl rfl 2 rfl ?_
    have g6 := gd_1 hf
    replace hf := gd_2 hf
    refine k_iast (pc' := 29) h dX4_write_28 rfl (aC_wl z5a z5b) g6 ?_
    obtain ⟨s7, hs7, hf⟩ := ls_s hf
    refine k_st hs7 ?_
    refine k_aload_n (pc' := 30) h dX4_write_29 rfl rfl 0 rfl ?_
    refine k_dup (pc' := 31) h dX4_write_30 rfl rfl ?_
    refine k_get (v := .int (s7.1 k 2)) (pc' := 34) h dX4_write_31 rfl (bC_tu hka hkb) fl_X4_18 rfl ?_
    refine k_iconst (pc' := 35) h dX4_write_34 rfl ci_1 ?_
    refine k_iadd (pc' := 36) h dX4_write_35 rfl ?_
    refine k_put (pc' := 39) h dX4_write_36 rfl (bC_tu hka hkb) fp_X4_18 sf_tu_2 sj_tu_2 ?_
    obtain ⟨s8, hs8, hf⟩ := ls_s hf
    refine k_st hs8 ?_
    exact k_vret h r dX4_write_39 (lf_v hf)
noncomputable def f_X3_serveOne (x0 : Int32) (x1 : Int32) (st : St) : Option (Int32 × St) :=
  ((f_X4_write 33 x0 x1 st).bind (fun q1 => ((f_X3_happen x0 x1 q1).bind (fun q2 => (some (q2.1, q2.2))))))
set_option maxHeartbeats 4000000 in
theorem c_X3_serveOne {G : GG} (l : Launch) (x0 : Int32) (x1 : Int32) (st : St)  (rr : Int32) (st' : St) (hf : f_X3_serveOne x0 x1 st = some (rr, st')) : MM l yX3_serveOne cX3_serveOne 3 (some .int) 5 (oC G) [.ref (al (oC G) 15), .int x0, .int x1] st (some (.int rr)) st' := by
  refine mk_MM (by decide +kernel) (Nat.le_of_ble_eq_true rfl) (fun X h r => ?_)
  refine k_sub (lv' := [(0, .ref (al (oC G) 15)), (1, .int x0), (2, .int x1)]) [0, 1, 2] rfl ?_
  unfold f_X3_serveOne at hf
  refine k_aload_n (pc' := 1) h dX3_serveOne_0 rfl rfl 0 rfl ?_
  refine k_get (v := .ref (al (oC G) 33)) (pc' := 4) h dX3_serveOne_1 rfl bC_sh fl_X3_20 rfl ?_
  refine k_iload_n (pc' := 5) h dX3_serveOne_4 rfl rfl 1 rfl ?_
  refine k_iload_n (pc' := 6) h dX3_serveOne_5 rfl rfl 2 rfl ?_
  obtain ⟨q1, hq1, hf⟩ := bd_s hf
  refine k_callV (As := [.int x0, .int x1]) (rest := []) (rv := none) (st' := q1) (stk' := []) (pc' := 9) h dX3_serveOne_6 rfl ml_X3_66 wc_X4_write wi_X4_write ⟨Nat.le_of_ble_eq_true rfl, Nat.le_of_ble_eq_true rfl⟩ (bC_tu (Nat.le_of_ble_eq_true rfl : 30 ≤ 33) (Nat.le_of_ble_eq_true rfl : 33 < 34)) rfl rfl rfl rfl (Nat.le_of_ble_eq_true rfl) (fun l => c_X4_write l 33 x0 x1 st (Nat.le_of_ble_eq_true rfl : 30 ≤ 33) (Nat.le_of_ble_eq_true rfl : 33 < 34) _ hq1) rfl ?_
  refine k_aload_n (pc' := 10) h dX3_serveOne_9 rfl rfl 0 rfl ?_
  refine k_iload_n (pc' := 11) h dX3_serveOne_10 rfl rfl 1 rfl ?_
  refine k_iload_n (pc' := 12) h dX3_serveOne_11 rfl rfl 2 rfl ?_
  obtain ⟨q2, hq2, hf⟩ := bd_s hf
  refine k_callV (As := [.int x0, .int x1]) (rest := []) (rv := some (.int q2.1)) (st' := q2.2) (stk' := [.int q2.1]) (pc' := 15) h dX3_serveOne_12 rfl ml_X3_63 wc_X3_happen wi_X3_happen ⟨Nat.le_of_ble_eq_true rfl, Nat.le_of_ble_eq_true rfl⟩ bC_sh rfl rfl rfl rfl (Nat.le_of_ble_eq_true rfl) (fun l => c_X3_happen l x0 x1 q1  _ _ hq2) rfl ?_
  exact k_iret h r dX3_serveOne_15 (lf_i hf)
noncomputable def f_X3_beginMorning  (st : St) : Option (St) :=
  ((f_X4_write 33 (-9 : Int32) (-9 : Int32) st).bind (fun q1 => ((f_X3_happen (-9 : Int32) (-9 : Int32) q1).bind (fun q2 => (some q2.2)))))
set_option maxHeartbeats 4000000 in
theorem c_X3_beginMorning {G : GG} (l : Launch)  (st : St)  (st' : St) (hf : f_X3_beginMorning  st = some st') : MM l yX3_beginMorning cX3_beginMorning 1 none 5 (oC G) [.ref (al (oC G) 15)] st none st' := by
  refine mk_MM (by decide +kernel) (Nat.le_of_ble_eq_true rfl) (fun X h r => ?_)
  refine k_sub (lv' := [(0, .ref (al (oC G) 15))]) [0] rfl ?_
  unfold f_X3_beginMorning at hf
  refine k_aload_n (pc' := 1) h dX3_beginMorning_0 rfl rfl 0 rfl ?_
  refine k_get (v := .ref (al (oC G) 33)) (pc' := 4) h dX3_beginMorning_1 rfl bC_sh fl_X3_20 rfl ?_
  refine k_bipush (pc' := 6) h dX3_beginMorning_4 rfl cb_m9 ?_
  refine k_bipush (pc' := 8) h dX3_beginMorning_6 rfl cb_m9 ?_
  obtain ⟨q1, hq1, hf⟩ := bd_s hf
  refine k_callV (As := [.int (-9 : Int32), .int (-9 : Int32)]) (rest := []) (rv := none) (st' := q1) (stk' := []) (pc' := 11) h dX3_beginMorning_8 rfl ml_X3_66 wc_X4_write wi_X4_write ⟨Nat.le_of_ble_eq_true rfl, Nat.le_of_ble_eq_true rfl⟩ (bC_tu (Nat.le_of_ble_eq_true rfl : 30 ≤ 33) (Nat.le_of_ble_eq_true rfl : 33 < 34)) rfl rfl rfl rfl (Nat.le_of_ble_eq_true rfl) (fun l => c_X4_write l 33 (-9 : Int32) (-9 : Int32) st (Nat.le_of_ble_eq_true rfl : 30 ≤ 33) (Nat.le_of_ble_eq_true rfl : 33 < 34) _ hq1) rfl ?_
  refine k_aload_n (pc' := 12) h dX3_beginMorning_11 rfl rfl 0 rfl ?_
  refine k_bipush (pc' := 14) h dX3_beginMorning_12 rfl cb_m9 ?_
  refine k_bipush (pc' := 16) h dX3_beginMorning_14 rfl cb_m9 ?_
  obtain ⟨q2, hq2, hf⟩ := bd_s hf
  refine k_callV (As := [.int (-9 : Int32), .int (-9 : Int32)]) (rest := []) (rv := some (.int q2.1)) (st' := q2.2) (stk' := [.int q2.1]) (pc' := 19) h dX3_beginMorning_16 rfl ml_X3_63 wc_X3_happen wi_X3_happen ⟨Nat.le_of_ble_eq_true rfl, Nat.le_of_ble_eq_true rfl⟩ bC_sh rfl rfl rfl rfl (Nat.le_of_ble_eq_true rfl) (fun l => c_X3_happen l (-9 : Int32) (-9 : Int32) q1  _ _ hq2) rfl ?_
  refine k_pop (pc' := 20) h dX3_beginMorning_19 rfl rfl ?_
  exact k_vret h r dX3_beginMorning_20 (lf_v hf)
noncomputable def f_X3_factOf (x0 : Int32) (x1 : Int32) (st : St) : Option (Int32 × St) :=
  (gd (inb x0 6) (if x1 = (0 : Int32) then (some (st.1 (17 + x0.toNatClampNeg) 0, st)) else (if x1 = (1 : Int32) then (some (st.1 (17 + x0.toNatClampNeg) 1, st)) else (if x1 = (2 : Int32) then (some (st.1 (17 + x0.toNatClampNeg) 2, st)) else (if x1 = (3 : Int32) then (some (st.1 (17 + x0.toNatClampNeg) 3, st)) else (if x1 = (4 : Int32) then (some (st.1 (17 + x0.toNatClampNeg) 4, st)) else (if x1 = (5 : Int32) then (some (st.1 (17 + x0.toNatClampNeg) 5, st)) else (if x1 = (6 : Int32) then (some (st.1 (17 + x0.toNatClampNeg) 6, st)) else (if x1 = (7 : Int32) then (some (st.1 (17 + x0.toNatClampNeg) 7, st)) else ((f_X2_wantOn (17 + x0.toNatClampNeg) (st.1 15 3) st).bind (fun q10 => (some (q10.1, q10.2)))))))))))))
set_option maxHeartbeats 4000000 in
theorem c_X3_factOf {G : GG} (l : Launch) (x0 : Int32) (x1 : Int32) (st : St)  (rr : Int32) (st' : St) (hf : f_X3_factOf x0 x1 st = some (rr, st')) : MM l yX3_factOf cX3_factOf 4 (some .int) 2 (oC G) [.ref (al (oC G) 15), .int x0, .int x1] st (some (.int rr)) st' := by
  refine mk_MM (by decide +kernel) (Nat.le_of_ble_eq_true rfl) (fun X h r => ?_)
  refine k_sub (lv' := [(0, .ref (al (oC G) 15)), (1, .int x0), (2, .int x1)]) [0, 1, 2] rfl ?_
  unfold f_X3_factOf at hf
  refine k_aload_n (pc' := 1) h dX3_factOf_0 rfl rfl 0 rfl ?_
  refine k_get (v := .ref (al (oC G) 16)) (pc' := 4) h dX3_factOf_1 rfl bC_sh fl_X3_11 rfl ?_
  refine k_iload_n (pc' := 5) h dX3_factOf_4 rfl rfl 1 rfl ?_
  have g1 := gd_1 hf
  replace hf := gd_2 hf
  refine k_aald (tt := .object "TheUsual$Regular") (pc' := 6) h dX3_factOf_5 rfl rC_regs rfl rfl g1 ?_
  refine k_astore_n (lv' := [(0, .ref (al (oC G) 15)), (1, .int x0), (2, .int x1), (3, .ref (al (oC G) (17 + x0.toNatClampNeg)))]) (pc' := 7) h dX3_factOf_6 rfl rfl (Nat.le_of_ble_eq_true rfl) [1, 2, 3, 0] rfl ?_
  refine k_iload_n (pc' := 8) h dX3_factOf_7 rfl rfl 2 rfl ?_
  by_cases c2 : x1 = (0 : Int32)
  · replace hf := if_t c2 hf
    refine k_tin (tgt := 56) h 0 dX3_factOf_8 (by rw [c2]; decide +kernel) (by decide) (by decide) rfl rfl ?_
    refine k_aload_n (pc' := 57) h dX3_factOf_56 rfl rfl 3 rfl ?_
    refine k_get (v := .int (st.1 (17 + x0.toNatClampNeg) 0)) (pc' := 60) h dX3_factOf_57 rfl (bC_re (Nat.le_add_right 17 x0.toNatClampNeg) (Nat.add_lt_add_left (inb_lt g1) 17)) fl_X3_77 rfl ?_
    exact k_iret h r dX3_factOf_60 (lf_i hf)
  replace hf := if_f c2 hf
  by_cases c3 : x1 = (1 : Int32)
  · replace hf := if_t c3 hf
    refine k_tin (tgt := 61) h 1 dX3_factOf_8 (by rw [c3]; decide +kernel) (by decide) (by decide) rfl rfl ?_
    refine k_aload_n (pc' := 62) h dX3_factOf_61 rfl rfl 3 rfl ?_
    refine k_get (v := .int (st.1 (17 + x0.toNatClampNeg) 1)) (pc' := 65) h dX3_factOf_62 rfl (bC_re (Nat.le_add_right 17 x0.toNatClampNeg) (Nat.add_lt_add_left (inb_lt g1) 17)) fl_X3_80 rfl ?_
    exact k_iret h r dX3_factOf_65 (lf_i hf)
  replace hf := if_f c3 hf
  by_cases c4 : x1 = (2 : Int32)
  · replace hf := if_t c4 hf
    refine k_tin (tgt := 66) h 2 dX3_factOf_8 (by rw [c4]; decide +kernel) (by decide) (by decide) rfl rfl ?_
    refine k_aload_n (pc' := 67) h dX3_factOf_66 rfl rfl 3 rfl ?_
    refine k_get (v := .int (st.1 (17 + x0.toNatClampNeg) 2)) (pc' := 70) h dX3_factOf_67 rfl (bC_re (Nat.le_add_right 17 x0.toNatClampNeg) (Nat.add_lt_add_left (inb_lt g1) 17)) fl_X3_83 rfl ?_
    exact k_iret h r dX3_factOf_70 (lf_i hf)
  replace hf := if_f c4 hf
  by_cases c5 : x1 = (3 : Int32)
  · replace hf := if_t c5 hf
    refine k_tin (tgt := 71) h 3 dX3_factOf_8 (by rw [c5]; decide +kernel) (by decide) (by decide) rfl rfl ?_
    refine k_aload_n (pc' := 72) h dX3_factOf_71 rfl rfl 3 rfl ?_
    refine k_get (v := .int (st.1 (17 + x0.toNatClampNeg) 3)) (pc' := 75) h dX3_factOf_72 rfl (bC_re (Nat.le_add_right 17 x0.toNatClampNeg) (Nat.add_lt_add_left (inb_lt g1) 17)) fl_X3_86 rfl ?_
    exact k_iret h r dX3_factOf_75 (lf_i hf)
  replace hf := if_f c5 hf
  by_cases c6 : x1 = (4 : Int32)
  · replace hf := if_t c6 hf
    refine k_tin (tgt := 76) h 4 dX3_factOf_8 (by rw [c6]; decide +kernel) (by decide) (by decide) rfl rfl ?_
    refine k_aload_n (pc' := 77) h dX3_factOf_76 rfl rfl 3 rfl ?_
    refine k_get (v := .int (st.1 (17 + x0.toNatClampNeg) 4)) (pc' := 80) h dX3_factOf_77 rfl (bC_re (Nat.le_add_right 17 x0.toNatClampNeg) (Nat.add_lt_add_left (inb_lt g1) 17)) fl_X3_89 rfl ?_
    exact k_iret h r dX3_factOf_80 (lf_i hf)
  replace hf := if_f c6 hf
  by_cases c7 : x1 = (5 : Int32)
  · replace hf := if_t c7 hf
    refine k_tin (tgt := 81) h 5 dX3_factOf_8 (by rw [c7]; decide +kernel) (by decide) (by decide) rfl rfl ?_
    refine k_aload_n (pc' := 82) h dX3_factOf_81 rfl rfl 3 rfl ?_
    refine k_get (v := .int (st.1 (17 + x0.toNatClampNeg) 5)) (pc' := 85) h dX3_factOf_82 rfl (bC_re (Nat.le_add_right 17 x0.toNatClampNeg) (Nat.add_lt_add_left (inb_lt g1) 17)) fl_X3_92 rfl ?_
    exact k_iret h r dX3_factOf_85 (lf_i hf)
  replace hf := if_f c7 hf
  by_cases c8 : x1 = (6 : Int32)
  · replace hf := if_t c8 hf
    refine k_tin (tgt := 86) h 6 dX3_factOf_8 (by rw [c8]; decide +kernel) (by decide) (by decide) rfl rfl ?_
    refine k_aload_n (pc' := 87) h dX3_factOf_86 rfl rfl 3 rfl ?_
    refine k_get (v := .int (st.1 (17 + x0.toNatClampNeg) 6)) (pc' := 90) h dX3_factOf_87 rfl (bC_re (Nat.le_add_right 17 x0.toNatClampNeg) (Nat.add_lt_add_left (inb_lt g1) 17)) fl_X3_43 rfl ?_
    exact k_iret h r dX3_factOf_90 (lf_i hf)
  replace hf := if_f c8 hf
  by_cases c9 : x1 = (7 : Int32)
  · replace hf := if_t c9 hf
    refine k_tin (tgt := 91) h 7 dX3_factOf_8 (by rw [c9]; decide +kernel) (by decide) (by decide) rfl rfl ?_
    refine k_aload_n (pc' := 92) h dX3_factOf_91 rfl rfl 3 rfl ?_
    refine k_get (v := .int (st.1 (17 + x0.toNatClampNeg) 7)) (pc' := 95) h dX3_factOf_92 rfl (bC_re (Nat.le_add_right 17 x0.toNatClampNeg) (Nat.add_lt_add_left (inb_lt g1) 17)) fl_X3_46 rfl ?_
    exact k_iret h r dX3_factOf_95 (lf_i hf)
  replace hf := if_f c9 hf
  have hsw : x1.toInt ≠ 0 ∧ x1.toInt ≠ 1 ∧ x1.toInt ≠ 2 ∧ x1.toInt ≠ 3 ∧ x1.toInt ≠ 4 ∧ x1.toInt ≠ 5 ∧ x1.toInt ≠ 6 ∧ x1.toInt ≠ 7 := ⟨sw_ne c2 (by decide +kernel), sw_ne c3 (by decide +kernel), sw_ne c4 (by decide +kernel), sw_ne c5 (by decide +kernel), sw_ne c6 (by decide +kernel), sw_ne c7 (by decide +kernel), sw_ne c8 (by decide +kernel), sw_ne c9 (by decide +kernel)⟩
  refine k_tout (tgt := 96) h dX3_factOf_8 (by omega) rfl ?_
  refine k_aload_n (pc' := 97) h dX3_factOf_96 rfl rfl 3 rfl ?_
  refine k_aload_n (pc' := 98) h dX3_factOf_97 rfl rfl 0 rfl ?_
  refine k_get (v := .int (st.1 15 3)) (pc' := 101) h dX3_factOf_98 rfl bC_sh fl_X3_37 rfl ?_
  obtain ⟨q10, hq10, hf⟩ := bd_s hf
  refine k_callV (As := [.int (st.1 15 3)]) (rest := []) (rv := some (.int q10.1)) (st' := q10.2) (stk' := [.int q10.1]) (pc' := 104) h dX3_factOf_101 rfl ml_X3_95 wc_X2_wantOn wi_X2_wantOn ⟨Nat.le_of_ble_eq_true rfl, Nat.le_of_ble_eq_true rfl⟩ (bC_re (Nat.le_add_right 17 x0.toNatClampNeg) (Nat.add_lt_add_left (inb_lt g1) 17)) rfl rfl rfl rfl (Nat.le_of_ble_eq_true rfl) (fun l => c_X2_wantOn l (17 + x0.toNatClampNeg) (st.1 15 3) st (Nat.le_add_right 17 x0.toNatClampNeg) (Nat.add_lt_add_left (inb_lt g1) 17) _ _ hq10) rfl ?_
  exact k_iret h r dX3_factOf_104 (lf_i hf)
noncomputable def f_X3_everybody  (st : St) : Option (Int32 × St) :=
  (some (((1 : Int32) <<< ((st.1 15 2) &&& 31)) - (1 : Int32), st))
set_option maxHeartbeats 4000000 in
theorem c_X3_everybody {G : GG} (l : Launch)  (st : St)  (rr : Int32) (st' : St) (hf : f_X3_everybody  st = some (rr, st')) : MM l yX3_everybody cX3_everybody 1 (some .int) 0 (oC G) [.ref (al (oC G) 15)] st (some (.int rr)) st' := by
  refine mk_MM (by decide +kernel) (Nat.le_of_ble_eq_true rfl) (fun X h r => ?_)
  refine k_sub (lv' := [(0, .ref (al (oC G) 15))]) [0] rfl ?_
  unfold f_X3_everybody at hf
  refine k_iconst (pc' := 1) h dX3_everybody_0 rfl ci_1 ?_
  refine k_aload_n (pc' := 2) h dX3_everybody_1 rfl rfl 0 rfl ?_
  refine k_get (v := .int (st.1 15 2)) (pc' := 5) h dX3_everybody_2 rfl bC_sh fl_X3_25 rfl ?_
  refine k_ishl (pc' := 6) h dX3_everybody_5 rfl ?_
  refine k_iconst (pc' := 7) h dX3_everybody_6 rfl ci_1 ?_
  refine k_isub (pc' := 8) h dX3_everybody_7 rfl ?_
  exact k_iret h r dX3_everybody_8 (lf_i hf)
noncomputable def l_X3_thoseWhoLook_5 (p1 : Int32) (p2 : Int32) (v3 : Int32) (v4 : Int32) (st : St) : Option ((Int32 × Int32 × St) ⊕ (Int32 × Int32 × St)) :=
  (if (st.1 15 2) ≤ v4 then (some (.inr (v3, v4, st))) else (gd (inb v4 6) ((f_X2_looks (17 + v4.toNatClampNeg) p1 p2 st).bind (fun q3 => (if q3.1 = 0 then (some (.inl (v3, v4 + (1 : Int32), q3.2))) else (lw (v3 ||| ((1 : Int32) <<< (v4 &&& 31))) (fun y5 => (some (.inl (y5, v4 + (1 : Int32), q3.2))))))))))
set_option maxHeartbeats 4000000 in
theorem w_X3_thoseWhoLook_5 {G : GG} {X : Cx} (h : Ok X (oC G) cX3_thoseWhoLook RX3 5 (RM 1))  (p1 : Int32) (p2 : Int32)  (n : Nat) (v3 : Int32) (v4 : Int32) (st : St) (q : Int32 × Int32 × St) (hq : iter (fun v : Int32 × Int32 × St => l_X3_thoseWhoLook_5 p1 p2 v.1 v.2.1 v.2.2) n (v3, v4, st) = some q) (kx : Wk X (oC G) 5 q.2.2 42 [(0, .ref (al (oC G) 15)), (1, .int p1), (2, .int p2), (3, .int q.1), (4, .int q.2.1)] []) : Wk X (oC G) 5 st 5 [(0, .ref (al (oC G) 15)), (1, .int p1), (2, .int p2), (3, .int v3), (4, .int v4)] [] := by
  refine iter_rule (hd := (fun v : Int32 × Int32 × St => Wk X (oC G) 5 v.2.2 5 [(0, .ref (al (oC G) 15)), (1, .int p1), (2, .int p2), (3, .int v.1), (4, .int v.2.1)] [])) (ex := (fun v : Int32 × Int32 × St => Wk X (oC G) 5 v.2.2 42 [(0, .ref (al (oC G) 15)), (1, .int p1), (2, .int p2), (3, .int v.1), (4, .int v.2.1)] [])) ?_ n (v3, v4, st) q hq kx
  rintro ⟨v3, v4, st⟩ oo hbv K
  show Wk X (oC G) 5 st 5 [(0, .ref (al (oC G) 15)), (1, .int p1), (2, .int p2), (3, .int v3), (4, .int v4)] []
  have hf : l_X3_thoseWhoLook_5 p1 p2 v3 v4 st = some oo := hbv
  unfold l_X3_thoseWhoLook_5 at hf
  refine k_iload (pc' := 7) h dX3_thoseWhoLook_5 rfl 4 rfl ?_
  refine k_aload_n (pc' := 8) h dX3_thoseWhoLook_7 rfl rfl 0 rfl ?_
  refine k_get (v := .int (st.1 15 2)) (pc' := 11) h dX3_thoseWhoLook_8 rfl bC_sh fl_X3_25 rfl ?_
  refine k_icmp_ge (tgt := 42) (pc' := 14) h dX3_thoseWhoLook_11 rfl rfl (fun c1 => ?_) (fun c1 => ?_)
  · replace hf := if_t c1 hf
    refine k_sub (lv' := [(0, .ref (al (oC G) 15)), (1, .int p1), (2, .int p2), (3, .int v3), (4, .int v4)]) [0, 1, 2, 3, 4] rfl ?_
    exact lp_o hf K
  · replace hf := if_f c1 hf
    refine k_aload_n (pc' := 15) h dX3_thoseWhoLook_14 rfl rfl 0 rfl ?_
    refine k_get (v := .ref (al (oC G) 16)) (pc' := 18) h dX3_thoseWhoLook_15 rfl bC_sh fl_X3_11 rfl ?_
    refine k_iload (pc' := 20) h dX3_thoseWhoLook_18 rfl 4 rfl ?_
    have g2 := gd_1 hf
    replace hf := gd_2 hf
    refine k_aald (tt := .object "TheUsual$Regular") (pc' := 21) h dX3_thoseWhoLook_20 rfl rC_regs rfl rfl g2 ?_
    refine k_iload_n (pc' := 22) h dX3_thoseWhoLook_21 rfl rfl 1 rfl ?_
    refine k_iload_n (pc' := 23) h dX3_thoseWhoLook_22 rfl rfl 2 rfl ?_
    obtain ⟨q3, hq3, hf⟩ := bd_s hf
    refine k_callV (As := [.int p1, .int p2]) (rest := []) (rv := some (.int q3.1)) (st' := q3.2) (stk' := [.int q3.1]) (pc' := 26) h dX3_thoseWhoLook_23 rfl ml_X3_99 wc_X2_looks wi_X2_looks ⟨Nat.le_of_ble_eq_true rfl, Nat.le_of_ble_eq_true rfl⟩ (bC_re (Nat.le_add_right 17 v4.toNatClampNeg) (Nat.add_lt_add_left (inb_lt g2) 17)) rfl rfl rfl rfl (Nat.le_of_ble_eq_true rfl) (fun l => c_X2_looks l (17 + v4.toNatClampNeg) p1 p2 st (Nat.le_add_right 17 v4.toNatClampNeg) (Nat.add_lt_add_left (inb_lt g2) 17) _ _ hq3) rfl ?_
    refine k_if_eq (tgt := 36) (pc' := 29) h dX3_thoseWhoLook_26 rfl rfl (fun c4 => ?_) (fun c4 => ?_)
    · replace hf := if_t c4 hf
      refine k_iinc (lv' := [(0, .ref (al (oC G) 15)), (1, .int p1), (2, .int p2), (3, .int v3), (4, .int (v4 + (1 : Int32)))]) (pc' := 39) h dX3_thoseWhoLook_36 rfl 4 rfl (congrArg (fun z => v4 + z) ci_1) (Nat.le_of_ble_eq_true rfl) [1, 2, 3, 4, 0] rfl ?_
      refine k_goto (tgt := 5) h dX3_thoseWhoLook_39 rfl ?_
      refine k_sub (lv' := [(0, .ref (al (oC G) 15)), (1, .int p1), (2, .int p2), (3, .int v3), (4, .int (v4 + (1 : Int32)))]) [0, 1, 2, 3, 4] rfl ?_
      exact lp_o hf K
    · replace hf := if_f c4 hf
      refine k_iload_n (pc' := 30) h dX3_thoseWhoLook_29 rfl rfl 3 rfl ?_
      refine k_iconst (pc' := 31) h dX3_thoseWhoLook_30 rfl ci_1 ?_
      refine k_iload (pc' := 33) h dX3_thoseWhoLook_31 rfl 4 rfl ?_
      refine k_ishl (pc' := 34) h dX3_thoseWhoLook_33 rfl ?_
      refine k_ior (pc' := 35) h dX3_thoseWhoLook_34 rfl ?_
      obtain ⟨y5, hy5, hf⟩ := lw_s hf
      refine k_eqi hy5 ?_
      refine k_istore_n (lv' := [(0, .ref (al (oC G) 15)), (1, .int p1), (2, .int p2), (3, .int y5), (4, .int v4)]) (pc' := 36) h dX3_thoseWhoLook_35 rfl rfl (Nat.le_of_ble_eq_true rfl) [1, 2, 3, 0, 4] rfl ?_
      refine k_iinc (lv' := [(0, .ref (al (oC G) 15)), (1, .int p1), (2, .int p2), (3, .int y5), (4, .int (v4 + (1 : Int32)))]) (pc' := 39) h dX3_thoseWhoLook_36 rfl 4 rfl (congrArg (fun z => v4 + z) ci_1) (Nat.le_of_ble_eq_true rfl) [1, 2, 3, 4, 0] rfl ?_
      refine k_goto (tgt := 5) h dX3_thoseWhoLook_39 rfl ?_
      refine k_sub (lv' := [(0, .ref (al (oC G) 15)), (1, .int p1), (2, .int p2), (3, .int y5), (4, .int (v4 + (1 : Int32)))]) [0, 1, 2, 3, 4] rfl ?_
      exact lp_o hf K
noncomputable def f_X3_thoseWhoLook (x0 : Int32) (x1 : Int32) (st : St) : Option (Int32 × St) :=
  ((iter (fun v : Int32 × Int32 × St => l_X3_thoseWhoLook_5 x0 x1 v.1 v.2.1 v.2.2) fuel ((0 : Int32), (0 : Int32), st)).bind (fun q6 => (some (q6.1, q6.2.2))))
set_option maxHeartbeats 4000000 in
theorem c_X3_thoseWhoLook {G : GG} (l : Launch) (x0 : Int32) (x1 : Int32) (st : St)  (rr : Int32) (st' : St) (hf : f_X3_thoseWhoLook x0 x1 st = some (rr, st')) : MM l yX3_thoseWhoLook cX3_thoseWhoLook 5 (some .int) 1 (oC G) [.ref (al (oC G) 15), .int x0, .int x1] st (some (.int rr)) st' := by
  refine mk_MM (by decide +kernel) (Nat.le_of_ble_eq_true rfl) (fun X h r => ?_)
  refine k_sub (lv' := [(0, .ref (al (oC G) 15)), (1, .int x0), (2, .int x1)]) [0, 1, 2] rfl ?_
  unfold f_X3_thoseWhoLook at hf
  refine k_iconst (pc' := 1) h dX3_thoseWhoLook_0 rfl ci_0 ?_
  refine k_istore_n (lv' := [(0, .ref (al (oC G) 15)), (1, .int x0), (2, .int x1), (3, .int (0 : Int32))]) (pc' := 2) h dX3_thoseWhoLook_1 rfl rfl (Nat.le_of_ble_eq_true rfl) [1, 2, 3, 0] rfl ?_
  refine k_iconst (pc' := 3) h dX3_thoseWhoLook_2 rfl ci_0 ?_
  refine k_istore (lv' := [(0, .ref (al (oC G) 15)), (1, .int x0), (2, .int x1), (3, .int (0 : Int32)), (4, .int (0 : Int32))]) (pc' := 5) h dX3_thoseWhoLook_3 rfl (Nat.le_of_ble_eq_true rfl) [1, 2, 3, 4, 0] rfl ?_
  obtain ⟨q6, hq6, hf⟩ := bd_s hf
  refine w_X3_thoseWhoLook_5 h x0 x1  fuel (0 : Int32) (0 : Int32) st q6 hq6 ?_
  refine k_iload_n (pc' := 43) h dX3_thoseWhoLook_42 rfl rfl 3 rfl ?_
  exact k_iret h r dX3_thoseWhoLook_43 (lf_i hf)
