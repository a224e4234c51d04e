noncomputable def f_X5_fault (x0 : Int32) (st : St) : Option (Int32 × St) :=
  ((f_X5_textRefusal x0 st).bind (fun q1 => (if q1.1 = 0 then (gd (inb x0 4) (gd (inb x0 4) ((f_X5_faultOf (10 + x0.toNatClampNeg) (q1.2.1 14 x0.toNatClampNeg) q1.2).bind (fun q5 => (some (q5.1, q5.2)))))) else (some (q1.1, q1.2)))))
set_option maxHeartbeats 4000000 in
theorem c_X5_fault {G : GG} (l : Launch) (x0 : Int32) (st : St)  (rr : Int32) (st' : St) (hf : f_X5_fault x0 st = some (rr, st')) : MM l yX5_fault cX5_fault 3 (some .int) 4 (oC G) [.ref (al (oC G) 0), .int x0] st (some (.int rr)) st' := by
  refine mk_MM (by decide +kernel) (Nat.le_of_ble_eq_true rfl) (fun X h r => ?_)
  refine k_sub (lv' := [(0, .ref (al (oC G) 0)), (1, .int x0)]) [0, 1] rfl ?_
  unfold f_X5_fault at hf
  refine k_aload_n (pc' := 1) h dX5_fault_0 rfl rfl 0 rfl ?_
  refine k_iload_n (pc' := 2) h dX5_fault_1 rfl rfl 1 rfl ?_
  obtain ⟨q1, hq1, hf⟩ := bd_s hf
  refine k_callV (As := [.int x0]) (rest := []) (rv := some (.int q1.1)) (st' := q1.2) (stk' := [.int q1.1]) (pc' := 5) h dX5_fault_2 rfl ml_X5_92 wc_X5_textRefusal wi_X5_textRefusal ⟨Nat.le_of_ble_eq_true rfl, Nat.le_of_ble_eq_true rfl⟩ bC_us rfl rfl rfl rfl (Nat.le_of_ble_eq_true rfl) (fun l => c_X5_textRefusal l x0 st  _ _ hq1) rfl ?_
  refine k_istore_n (lv' := [(0, .ref (al (oC G) 0)), (1, .int x0), (2, .int q1.1)]) (pc' := 6) h dX5_fault_5 rfl rfl (Nat.le_of_ble_eq_true rfl) [1, 2, 0] rfl ?_
  refine k_iload_n (pc' := 7) h dX5_fault_6 rfl rfl 2 rfl ?_
  refine k_if_eq (tgt := 12) (pc' := 10) h dX5_fault_7 rfl rfl (fun c2 => ?_) (fun c2 => ?_)
  · replace hf := if_t c2 hf
    refine k_aload_n (pc' := 13) h dX5_fault_12 rfl rfl 0 rfl ?_
    refine k_get (v := .ref (al (oC G) 9)) (pc' := 16) h dX5_fault_13 rfl bC_us fl_X5_20 rfl ?_
    refine k_iload_n (pc' := 17) h dX5_fault_16 rfl rfl 1 rfl ?_
    have g3 := gd_1 hf
    replace hf := gd_2 hf
    refine k_aald (tt := .array .byte) (pc' := 18) h dX5_fault_17 rfl rC_texts rfl rfl g3 ?_
    refine k_aload_n (pc' := 19) h dX5_fault_18 rfl rfl 0 rfl ?_
    refine k_get (v := .ref (al (oC G) 14)) (pc' := 22) h dX5_fault_19 rfl bC_us fl_X5_23 rfl ?_
    refine k_iload_n (pc' := 23) h dX5_fault_22 rfl rfl 1 rfl ?_
    have g4 := gd_1 hf
    replace hf := gd_2 hf
    refine k_iald (pc' := 24) h dX5_fault_23 rfl aC_ts g4 ?_
    obtain ⟨q5, hq5, hf⟩ := bd_s hf
    refine k_callS (As := [.ref (al (oC G) (10 + x0.toNatClampNeg)), .int (q1.2.1 14 x0.toNatClampNeg)]) (rest := []) (rv := some (.int q5.1)) (st' := q5.2) (stk' := [.int q5.1]) (pc' := 27) h dX5_fault_24 rfl ml_X5_95 wc_X5_faultOf ws_X5_faultOf ⟨Nat.le_of_ble_eq_true rfl, Nat.le_of_ble_eq_true rfl⟩ rfl rfl (Nat.le_of_ble_eq_true rfl) (fun l => c_X5_faultOf l (10 + x0.toNatClampNeg) (q1.2.1 14 x0.toNatClampNeg) q1.2 (Nat.le_add_right 10 x0.toNatClampNeg) (Nat.add_lt_add_left (inb_lt g3) 10) _ _ hq5) rfl ?_
    exact k_iret h r dX5_fault_27 (lf_i hf)
  · replace hf := if_f c2 hf
    refine k_iload_n (pc' := 11) h dX5_fault_10 rfl rfl 2 rfl ?_
    exact k_iret h r dX5_fault_11 (lf_i hf)
noncomputable def l_X5_shop_56 (p1 : Int32) (p2 : Int32) (v3 : Int32) (st : St) : Option ((Int32 × St) ⊕ (Int32 × St)) :=
  (if (3 : Int32) ≤ v3 then (some (.inr (v3, st))) else (gd (inb v3 3) (ls (sA st (24 + v3.toNatClampNeg) (upd (st.1 (24 + v3.toNatClampNeg)) 2 (0 : Int32))) (fun s12 => (some (.inl (v3 + (1 : Int32), s12)))))))
set_option maxHeartbeats 4000000 in
theorem w_X5_shop_56 {G : GG} {X : Cx} (h : Ok X (oC G) cX5_shop RX5 4 (RM 7))  (p1 : Int32) (p2 : Int32)  (n : Nat) (v3 : Int32) (st : St) (q : Int32 × St) (hq : iter (fun v : Int32 × St => l_X5_shop_56 p1 p2 v.1 v.2) n (v3, st) = some q) (kx : Wk X (oC G) 4 q.2 77 [(0, .ref (al (oC G) 0)), (1, .int p1), (2, .int p2), (3, .int q.1)] []) : Wk X (oC G) 4 st 56 [(0, .ref (al (oC G) 0)), (1, .int p1), (2, .int p2), (3, .int v3)] [] := by
  refine iter_rule (hd := (fun v : Int32 × St => Wk X (oC G) 4 v.2 56 [(0, .ref (al (oC G) 0)), (1, .int p1), (2, .int p2), (3, .int v.1)] [])) (ex := (fun v : Int32 × St => Wk X (oC G) 4 v.2 77 [(0, .ref (al (oC G) 0)), (1, .int p1), (2, .int p2), (3, .int v.1)] [])) ?_ n (v3, st) q hq kx
  rintro ⟨v3, st⟩ oo hbv K
  show Wk X (oC G) 4 st 56 [(0, .ref (al (oC G) 0)), (1, .int p1), (2, .int p2), (3, .int v3)] []
  have hf : l_X5_shop_56 p1 p2 v3 st = some oo := hbv
  unfold l_X5_shop_56 at hf
  refine k_iload_n (pc' := 57) h dX5_shop_56 rfl rfl 3 rfl ?_
  refine k_iconst (pc' := 58) h dX5_shop_57 rfl ci_3 ?_
  refine k_icmp_ge (tgt := 77) (pc' := 61) h dX5_shop_58 rfl rfl (fun c10 => ?_) (fun c10 => ?_)
  · replace hf := if_t c10 hf
    refine k_sub (lv' := [(0, .ref (al (oC G) 0)), (1, .int p1), (2, .int p2), (3, .int v3)]) [0, 1, 2, 3] rfl ?_
    exact lp_o hf K
  · replace hf := if_f c10 hf
    refine k_aload_n (pc' := 62) h dX5_shop_61 rfl rfl 0 rfl ?_
    refine k_get (v := .ref (al (oC G) 23)) (pc' := 65) h dX5_shop_62 rfl bC_us fl_X5_35 rfl ?_
    refine k_iload_n (pc' := 66) h dX5_shop_65 rfl rfl 3 rfl ?_
    have g11 := gd_1 hf
    replace hf := gd_2 hf
    refine k_aald (tt := .object "TheUsual$Kept") (pc' := 67) h dX5_shop_66 rfl rC_plc rfl rfl g11 ?_
    refine k_iconst (pc' := 68) h dX5_shop_67 rfl ci_0 ?_
    refine k_putz (pc' := 71) h dX5_shop_68 rfl (bC_ke (Nat.le_add_right 24 v3.toNatClampNeg) (Nat.add_lt_add_left (inb_lt g11) 24)) fp_X5_103 (by decide) sf_ke_2 sj_ke_2 ?_
    obtain ⟨s12, hs12, hf⟩ := ls_s hf
    refine k_st hs12 ?_
    refine k_iinc (lv' := [(0, .ref (al (oC G) 0)), (1, .int p1), (2, .int p2), (3, .int (v3 + (1 : Int32)))]) (pc' := 74) h dX5_shop_71 rfl 3 rfl (congrArg (fun z => v3 + z) ci_1) (Nat.le_of_ble_eq_true rfl) [1, 2, 3, 0] rfl ?_
    refine k_goto (tgt := 56) h dX5_shop_74 rfl ?_
    refine k_sub (lv' := [(0, .ref (al (oC G) 0)), (1, .int p1), (2, .int p2), (3, .int (v3 + (1 : Int32)))]) [0, 1, 2, 3] rfl ?_
    exact lp_o hf K
noncomputable def f_X5_shop (x0 : Int32) (st : St) : Option (Int32 × St) :=
  ((f_X5_textRefusal x0 st).bind (fun q1 => (if q1.1 = 0 then (gd (inb x0 4) (gd (inb x0 4) ((f_X5_faultOf (10 + x0.toNatClampNeg) (q1.2.1 14 x0.toNatClampNeg) q1.2).bind (fun q5 => (if q5.1 = (-9 : Int32) then (gd (inb x0 4) (gd (inb x0 4) ((f_X3_open (10 + x0.toNatClampNeg) (q5.2.1 14 x0.toNatClampNeg) q5.2).bind (fun q9 => ((iter (fun v : Int32 × St => l_X5_shop_56 x0 q1.1 v.1 v.2) fuel ((0 : Int32), q9)).bind (fun q13 => (some (q13.2.1 15 2, q13.2)))))))) else (some ((-4 : Int32), q5.2))))))) else (some (q1.1, q1.2)))))
set_option maxHeartbeats 4000000 in
theorem c_X5_shop {G : GG} (l : Launch) (x0 : Int32) (st : St)  (rr : Int32) (st' : St) (hf : f_X5_shop x0 st = some (rr, st')) : MM l yX5_shop cX5_shop 4 (some .int) 7 (oC G) [.ref (al (oC G) 0), .int x0] st (some (.int rr)) st' := by
  refine mk_MM (by decide +kernel) (Nat.le_of_ble_eq_true rfl) (fun X h r => ?_)
  refine k_sub (lv' := [(0, .ref (al (oC G) 0)), (1, .int x0)]) [0, 1] rfl ?_
  unfold f_X5_shop at hf
  refine k_aload_n (pc' := 1) h dX5_shop_0 rfl rfl 0 rfl ?_
  refine k_iload_n (pc' := 2) h dX5_shop_1 rfl rfl 1 rfl ?_
  obtain ⟨q1, hq1, hf⟩ := bd_s hf
  refine k_callV (As := [.int x0]) (rest := []) (rv := some (.int q1.1)) (st' := q1.2) (stk' := [.int q1.1]) (pc' := 5) h dX5_shop_2 rfl ml_X5_92 wc_X5_textRefusal wi_X5_textRefusal ⟨Nat.le_of_ble_eq_true rfl, Nat.le_of_ble_eq_true rfl⟩ bC_us rfl rfl rfl rfl (Nat.le_of_ble_eq_true rfl) (fun l => c_X5_textRefusal l x0 st  _ _ hq1) rfl ?_
  refine k_istore_n (lv' := [(0, .ref (al (oC G) 0)), (1, .int x0), (2, .int q1.1)]) (pc' := 6) h dX5_shop_5 rfl rfl (Nat.le_of_ble_eq_true rfl) [1, 2, 0] rfl ?_
  refine k_iload_n (pc' := 7) h dX5_shop_6 rfl rfl 2 rfl ?_
  refine k_if_eq (tgt := 12) (pc' := 10) h dX5_shop_7 rfl rfl (fun c2 => ?_) (fun c2 => ?_)
  · replace hf := if_t c2 hf
    refine k_aload_n (pc' := 13) h dX5_shop_12 rfl rfl 0 rfl ?_
    refine k_get (v := .ref (al (oC G) 9)) (pc' := 16) h dX5_shop_13 rfl bC_us fl_X5_20 rfl ?_
    refine k_iload_n (pc' := 17) h dX5_shop_16 rfl rfl 1 rfl ?_
    have g3 := gd_1 hf
    replace hf := gd_2 hf
    refine k_aald (tt := .array .byte) (pc' := 18) h dX5_shop_17 rfl rC_texts rfl rfl g3 ?_
    refine k_aload_n (pc' := 19) h dX5_shop_18 rfl rfl 0 rfl ?_
    refine k_get (v := .ref (al (oC G) 14)) (pc' := 22) h dX5_shop_19 rfl bC_us fl_X5_23 rfl ?_
    refine k_iload_n (pc' := 23) h dX5_shop_22 rfl rfl 1 rfl ?_
    have g4 := gd_1 hf
    replace hf := gd_2 hf
    refine k_iald (pc' := 24) h dX5_shop_23 rfl aC_ts g4 ?_
    obtain ⟨q5, hq5, hf⟩ := bd_s hf
    refine k_callS (As := [.ref (al (oC G) (10 + x0.toNatClampNeg)), .int (q1.2.1 14 x0.toNatClampNeg)]) (rest := []) (rv := some (.int q5.1)) (st' := q5.2) (stk' := [.int q5.1]) (pc' := 27) h dX5_shop_24 rfl ml_X5_95 wc_X5_faultOf ws_X5_faultOf ⟨Nat.le_of_ble_eq_true rfl, Nat.le_of_ble_eq_true rfl⟩ rfl rfl (Nat.le_of_ble_eq_true rfl) (fun l => c_X5_faultOf l (10 + x0.toNatClampNeg) (q1.2.1 14 x0.toNatClampNeg) q1.2 (Nat.le_add_right 10 x0.toNatClampNeg) (Nat.add_lt_add_left (inb_lt g3) 10) _ _ hq5) rfl ?_
    refine k_bipush (pc' := 29) h dX5_shop_27 rfl cb_m9 ?_
    refine k_icmp_eq (tgt := 35) (pc' := 32) h dX5_shop_29 rfl rfl (fun c6 => ?_) (fun c6 => ?_)
    · replace hf := if_t c6 hf
      refine k_aload_n (pc' := 36) h dX5_shop_35 rfl rfl 0 rfl ?_
      refine k_get (v := .ref (al (oC G) 15)) (pc' := 39) h dX5_shop_36 rfl bC_us fl_X5_29 rfl ?_
      refine k_aload_n (pc' := 40) h dX5_shop_39 rfl rfl 0 rfl ?_
      refine k_get (v := .ref (al (oC G) 9)) (pc' := 43) h dX5_shop_40 rfl bC_us fl_X5_20 rfl ?_
      refine k_iload_n (pc' := 44) h dX5_shop_43 rfl rfl 1 rfl ?_
      have g7 := gd_1 hf
      replace hf := gd_2 hf
      refine k_aald (tt := .array .byte) (pc' := 45) h dX5_shop_44 rfl rC_texts rfl rfl g7 ?_
      refine k_aload_n (pc' := 46) h dX5_shop_45 rfl rfl 0 rfl ?_
      refine k_get (v := .ref (al (oC G) 14)) (pc' := 49) h dX5_shop_46 rfl bC_us fl_X5_23 rfl ?_
      refine k_iload_n (pc' := 50) h dX5_shop_49 rfl rfl 1 rfl ?_
      have g8 := gd_1 hf
      replace hf := gd_2 hf
      refine k_iald (pc' := 51) h dX5_shop_50 rfl aC_ts g8 ?_
      obtain ⟨q9, hq9, hf⟩ := bd_s hf
      refine k_callV (As := [.ref (al (oC G) (10 + x0.toNatClampNeg)), .int (q5.2.1 14 x0.toNatClampNeg)]) (rest := []) (rv := none) (st' := q9) (stk' := []) (pc' := 54) h dX5_shop_51 rfl ml_X5_99 wc_X3_open wi_X3_open ⟨Nat.le_of_ble_eq_true rfl, Nat.le_of_ble_eq_true rfl⟩ bC_sh rfl rfl rfl rfl (Nat.le_of_ble_eq_true rfl) (fun l => c_X3_open l (10 + x0.toNatClampNeg) (q5.2.1 14 x0.toNatClampNeg) q5.2 (Nat.le_add_right 10 x0.toNatClampNeg) (Nat.add_lt_add_left (inb_lt g7) 10) _ hq9) rfl ?_
      refine k_iconst (pc' := 55) h dX5_shop_54 rfl ci_0 ?_
      refine k_istore_n (lv' := [(0, .ref (al (oC G) 0)), (1, .int x0), (2, .int q1.1), (3, .int (0 : Int32))]) (pc' := 56) h dX5_shop_55 rfl rfl (Nat.le_of_ble_eq_true rfl) [1, 2, 3, 0] rfl ?_
      obtain ⟨q13, hq13, hf⟩ := bd_s hf
      refine w_X5_shop_56 h x0 q1.1  fuel (0 : Int32) q9 q13 hq13 ?_
      refine k_aload_n (pc' := 78) h dX5_shop_77 rfl rfl 0 rfl ?_
      refine k_get (v := .ref (al (oC G) 15)) (pc' := 81) h dX5_shop_78 rfl bC_us fl_X5_29 rfl ?_
      refine k_get (v := .int (q13.2.1 15 2)) (pc' := 84) h dX5_shop_81 rfl bC_sh fl_X5_107 rfl ?_
      exact k_iret h r dX5_shop_84 (lf_i hf)
    · replace hf := if_f c6 hf
      refine k_bipush (pc' := 34) h dX5_shop_32 rfl cb_m4 ?_
      exact k_iret h r dX5_shop_34 (lf_i hf)
  · replace hf := if_f c2 hf
    refine k_iload_n (pc' := 11) h dX5_shop_10 rfl rfl 2 rfl ?_
    exact k_iret h r dX5_shop_11 (lf_i hf)
noncomputable def f_X5_isRegular (x0 : Int32) (st : St) : Option (Int32 × St) :=
  (if x0 < 0 then (some ((0 : Int32), st)) else (if (st.1 15 2) ≤ x0 then (some ((0 : Int32), st)) else (some ((1 : Int32), st))))
set_option maxHeartbeats 4000000 in
theorem c_X5_isRegular {G : GG} (l : Launch) (x0 : Int32) (st : St)  (rr : Int32) (st' : St) (hf : f_X5_isRegular x0 st = some (rr, st')) : MM l yX5_isRegular cX5_isRegular 2 (some .boolean) 0 (oC G) [.ref (al (oC G) 0), .int x0] st (some (.int rr)) st' := by
  refine mk_MM (by decide +kernel) (Nat.le_of_ble_eq_true rfl) (fun X h r => ?_)
  refine k_sub (lv' := [(0, .ref (al (oC G) 0)), (1, .int x0)]) [0, 1] rfl ?_
  unfold f_X5_isRegular at hf
  refine k_iload_n (pc' := 1) h dX5_isRegular_0 rfl rfl 1 rfl ?_
  refine k_if_lt (tgt := 19) (pc' := 4) h dX5_isRegular_1 rfl rfl (fun c1 => ?_) (fun c1 => ?_)
  · replace hf := if_t c1 hf
    refine k_iconst (pc' := 20) h dX5_isRegular_19 rfl ci_0 ?_
    exact k_zret h r dX5_isRegular_20 (by decide) (lf_i hf)
  · replace hf := if_f c1 hf
    refine k_iload_n (pc' := 5) h dX5_isRegular_4 rfl rfl 1 rfl ?_
    refine k_aload_n (pc' := 6) h dX5_isRegular_5 rfl rfl 0 rfl ?_
    refine k_get (v := .ref (al (oC G) 15)) (pc' := 9) h dX5_isRegular_6 rfl bC_us fl_X5_29 rfl ?_
    refine k_get (v := .int (st.1 15 2)) (pc' := 12) h dX5_isRegular_9 rfl bC_sh fl_X5_107 rfl ?_
    refine k_icmp_ge (tgt := 19) (pc' := 15) h dX5_isRegular_12 rfl rfl (fun c2 => ?_) (fun c2 => ?_)
    · replace hf := if_t c2 hf
      refine k_iconst (pc' := 20) h dX5_isRegular_19 rfl ci_0 ?_
      exact k_zret h r dX5_isRegular_20 (by decide) (lf_i hf)
    · replace hf := if_f c2 hf
      refine k_iconst (pc' := 16) h dX5_isRegular_15 rfl ci_1 ?_
      refine k_goto (tgt := 20) h dX5_isRegular_16 rfl ?_
      exact k_zret h r dX5_isRegular_20 (by decide) (lf_i hf)
noncomputable def f_X5_regular (x0 : Int32) (x1 : Int32) (st : St) : Option (Int32 × St) :=
  ((f_X5_isRegular x0 st).bind (fun q1 => (if q1.1 = 0 then (some ((-1 : Int32), q1.2)) else (if x1 < 0 then (some ((-1 : Int32), q1.2)) else (if x1 < (9 : Int32) then ((f_X3_factOf x0 x1 q1.2).bind (fun q5 => (ls (sA q5.2 0 (upd (q5.2.1 0) 9 q5.1)) (fun s6 => (some ((1 : Int32), s6)))))) else (some ((-1 : Int32), q1.2)))))))
set_option maxHeartbeats 4000000 in
theorem c_X5_regular {G : GG} (l : Launch) (x0 : Int32) (x1 : Int32) (st : St)  (rr : Int32) (st' : St) (hf : f_X5_regular x0 x1 st = some (rr, st')) : MM l yX5_regular cX5_regular 3 (some .int) 3 (oC G) [.ref (al (oC G) 0), .int x0, .int x1] st (some (.int rr)) st' := by
  refine mk_MM (by decide +kernel) (Nat.le_of_ble_eq_true rfl) (fun X h r => ?_)
  refine k_sub (lv' := [(0, .ref (al (oC G) 0)), (1, .int x0), (2, .int x1)]) [0, 1, 2] rfl ?_
  unfold f_X5_regular at hf
  refine k_aload_n (pc' := 1) h dX5_regular_0 rfl rfl 0 rfl ?_
  refine k_iload_n (pc' := 2) h dX5_regular_1 rfl rfl 1 rfl ?_
  obtain ⟨q1, hq1, hf⟩ := bd_s hf
  refine k_callV (As := [.int x0]) (rest := []) (rv := some (.int q1.1)) (st' := q1.2) (stk' := [.int q1.1]) (pc' := 5) h dX5_regular_2 rfl ml_X5_110 wc_X5_isRegular wi_X5_isRegular ⟨Nat.le_of_ble_eq_true rfl, Nat.le_of_ble_eq_true rfl⟩ bC_us rfl rfl rfl rfl (Nat.le_of_ble_eq_true rfl) (fun l => c_X5_isRegular l x0 st  _ _ hq1) rfl ?_
  refine k_if_eq (tgt := 18) (pc' := 8) h dX5_regular_5 rfl rfl (fun c2 => ?_) (fun c2 => ?_)
  · replace hf := if_t c2 hf
    refine k_iconst (pc' := 19) h dX5_regular_18 rfl ci_m1 ?_
    exact k_iret h r dX5_regular_19 (lf_i hf)
  · replace hf := if_f c2 hf
    refine k_iload_n (pc' := 9) h dX5_regular_8 rfl rfl 2 rfl ?_
    refine k_if_lt (tgt := 18) (pc' := 12) h dX5_regular_9 rfl rfl (fun c3 => ?_) (fun c3 => ?_)
    · replace hf := if_t c3 hf
      refine k_iconst (pc' := 19) h dX5_regular_18 rfl ci_m1 ?_
      exact k_iret h r dX5_regular_19 (lf_i hf)
    · replace hf := if_f c3 hf
      refine k_iload_n (pc' := 13) h dX5_regular_12 rfl rfl 2 rfl ?_
      refine k_bipush (pc' := 15) h dX5_regular_13 rfl cb_9 ?_
      refine k_icmp_lt (tgt := 20) (pc' := 18) h dX5_regular_15 rfl rfl (fun c4 => ?_) (fun c4 => ?_)
      · replace hf := if_t c4 hf
        refine k_aload_n (pc' := 21) h dX5_regular_20 rfl rfl 0 rfl ?_
        refine k_aload_n (pc' := 22) h dX5_regular_21 rfl rfl 0 rfl ?_
        refine k_get (v := .ref (al (oC G) 15)) (pc' := 25) h dX5_regular_22 rfl bC_us fl_X5_29 rfl ?_
        refine k_iload_n (pc' := 26) h dX5_regular_25 rfl rfl 1 rfl ?_
        refine k_iload_n (pc' := 27) h dX5_regular_26 rfl rfl 2 rfl ?_
        obtain ⟨q5, hq5, hf⟩ := bd_s hf
        refine k_callV (As := [.int x0, .int x1]) (rest := [.ref (al (oC G) 0)]) (rv := some (.int q5.1)) (st' := q5.2) (stk' := [.int q5.1, .ref (al (oC G) 0)]) (pc' := 30) h dX5_regular_27 rfl ml_X5_113 wc_X3_factOf wi_X3_factOf ⟨Nat.le_of_ble_eq_true rfl, Nat.le_of_ble_eq_true rfl⟩ bC_sh rfl rfl rfl rfl (Nat.le_of_ble_eq_true rfl) (fun l => c_X3_factOf l x0 x1 q1.2  _ _ hq5) rfl ?_
        refine k_put (pc' := 33) h dX5_regular_30 rfl bC_us fp_X5_53 sf_us_9 sj_us_9 ?_
        obtain ⟨s6, hs6, hf⟩ := ls_s hf
        refine k_st hs6 ?_
        refine k_iconst (pc' := 34) h dX5_regular_33 rfl ci_1 ?_
        exact k_iret h r dX5_regular_34 (lf_i hf)
      · replace hf := if_f c4 hf
        refine k_iconst (pc' := 19) h dX5_regular_18 rfl ci_m1 ?_
        exact k_iret h r dX5_regular_19 (lf_i hf)
noncomputable def f_J6_bitCount_0f7a4 (x0 : Int32) (st : St) : Option (Int32 × St) :=
  (lw (x0 - (((x0.toUInt32 >>> ((1 : Int32).toUInt32 &&& Int32.toUInt32 31)).toInt32) &&& (1431655765 : Int32))) (fun y1 => (lw ((y1 &&& (858993459 : Int32)) + (((y1.toUInt32 >>> ((2 : Int32).toUInt32 &&& Int32.toUInt32 31)).toInt32) &&& (858993459 : Int32))) (fun y2 => (lw ((y2 + ((y2.toUInt32 >>> ((4 : Int32).toUInt32 &&& Int32.toUInt32 31)).toInt32)) &&& (252645135 : Int32)) (fun y3 => (lw (y3 + ((y3.toUInt32 >>> ((8 : Int32).toUInt32 &&& Int32.toUInt32 31)).toInt32)) (fun y4 => (lw (y4 + ((y4.toUInt32 >>> ((16 : Int32).toUInt32 &&& Int32.toUInt32 31)).toInt32)) (fun y5 => (some (y5 &&& (63 : Int32), st))))))))))))
set_option maxHeartbeats 4000000 in
theorem c_J6_bitCount_0f7a4 {o : OO} (l : Launch) (x0 : Int32) (st : St)  (rr : Int32) (st' : St) (hf : f_J6_bitCount_0f7a4 x0 st = some (rr, st')) : MM l yJ6_bitCount_0f7a4 cJ6_bitCount_0f7a4 1 (some .int) 0 o [.int x0] st (some (.int rr)) st' := by
  refine mk_MM (by decide +kernel) (Nat.le_of_ble_eq_true rfl) (fun X h r => ?_)
  refine k_sub (lv' := [(0, .int x0)]) [0] rfl ?_
  unfold f_J6_bitCount_0f7a4 at hf
  refine k_iload_n (pc' := 1) h dJ6_bitCount_0f7a4_0 rfl rfl 0 rfl ?_
  refine k_iload_n (pc' := 2) h dJ6_bitCount_0f7a4_1 rfl rfl 0 rfl ?_
  refine k_iconst (pc' := 3) h dJ6_bitCount_0f7a4_2 rfl ci_1 ?_
  refine k_iushr (pc' := 4) h dJ6_bitCount_0f7a4_3 rfl ?_
  refine k_ldcw (pc' := 7) h dJ6_bitCount_0f7a4_4 rfl cst_J6_265 ?_
  refine k_iand (pc' := 8) h dJ6_bitCount_0f7a4_7 rfl ?_
  refine k_isub (pc' := 9) h dJ6_bitCount_0f7a4_8 rfl ?_
  obtain ⟨y1, hy1, hf⟩ := lw_s hf
  refine k_eqi hy1 ?_
  refine k_istore_n (lv' := [(0, .int y1)]) (pc' := 10) h dJ6_bitCount_0f7a4_9 rfl rfl (Nat.le_of_ble_eq_true rfl) [0] rfl ?_
  refine k_iload_n (pc' := 11) h dJ6_bitCount_0f7a4_10 rfl rfl 0 rfl ?_
  refine k_ldcw (pc' := 14) h dJ6_bitCount_0f7a4_11 rfl cst_J6_266 ?_
  refine k_iand (pc' := 15) h dJ6_bitCount_0f7a4_14 rfl ?_
  refine k_iload_n (pc' := 16) h dJ6_bitCount_0f7a4_15 rfl rfl 0 rfl ?_
  refine k_iconst (pc' := 17) h dJ6_bitCount_0f7a4_16 rfl ci_2 ?_
  refine k_iushr (pc' := 18) h dJ6_bitCount_0f7a4_17 rfl ?_
  refine k_ldcw (pc' := 21) h dJ6_bitCount_0f7a4_18 rfl cst_J6_266 ?_
  refine k_iand (pc' := 22) h dJ6_bitCount_0f7a4_21 rfl ?_
  refine k_iadd (pc' := 23) h dJ6_bitCount_0f7a4_22 rfl ?_
  obtain ⟨y2, hy2, hf⟩ := lw_s hf
  refine k_eqi hy2 ?_
  refine k_istore_n (lv' := [(0, .int y2)]) (pc' := 24) h dJ6_bitCount_0f7a4_23 rfl rfl (Nat.le_of_ble_eq_true rfl) [0] rfl ?_
  refine k_iload_n (pc' := 25) h dJ6_bitCount_0f7a4_24 rfl rfl 0 rfl ?_
  refine k_iload_n (pc' := 26) h dJ6_bitCount_0f7a4_25 rfl rfl 0 rfl ?_
  refine k_iconst (pc' := 27) h dJ6_bitCount_0f7a4_26 rfl ci_4 ?_
  refine k_iushr (pc' := 28) h dJ6_bitCount_0f7a4_27 rfl ?_
  refine k_iadd (pc' := 29) h dJ6_bitCount_0f7a4_28 rfl ?_
  refine k_ldcw (pc' := 32) h dJ6_bitCount_0f7a4_29 rfl cst_J6_267 ?_
  refine k_iand (pc' := 33) h dJ6_bitCount_0f7a4_32 rfl ?_
  obtain ⟨y3, hy3, hf⟩ := lw_s hf
  refine k_eqi hy3 ?_
  refine k_istore_n (lv' := [(0, .int y3)]) (pc' := 34) h dJ6_bitCount_0f7a4_33 rfl rfl (Nat.le_of_ble_eq_true rfl) [0] rfl ?_
  refine k_iload_n (pc' := 35) h dJ6_bitCount_0f7a4_34 rfl rfl 0 rfl ?_
  refine k_iload_n (pc' := 36) h dJ6_bitCount_0f7a4_35 rfl rfl 0 rfl ?_
  refine k_bipush (pc' := 38) h dJ6_bitCount_0f7a4_36 rfl cb_8 ?_
  refine k_iushr (pc' := 39) h dJ6_bitCount_0f7a4_38 rfl ?_
  refine k_iadd (pc' := 40) h dJ6_bitCount_0f7a4_39 rfl ?_
  obtain ⟨y4, hy4, hf⟩ := lw_s hf
  refine k_eqi hy4 ?_
  refine k_istore_n (lv' := [(0, .int y4)]) (pc' := 41) h dJ6_bitCount_0f7a4_40 rfl rfl (Nat.le_of_ble_eq_true rfl) [0] rfl ?_
  refine k_iload_n (pc' := 42) h dJ6_bitCount_0f7a4_41 rfl rfl 0 rfl ?_
  refine k_iload_n (pc' := 43) h dJ6_bitCount_0f7a4_42 rfl rfl 0 rfl ?_
  refine k_bipush (pc' := 45) h dJ6_bitCount_0f7a4_43 rfl cb_16 ?_
  refine k_iushr (pc' := 46) h dJ6_bitCount_0f7a4_45 rfl ?_
  refine k_iadd (pc' := 47) h dJ6_bitCount_0f7a4_46 rfl ?_
  obtain ⟨y5, hy5, hf⟩ := lw_s hf
  refine k_eqi hy5 ?_
  refine k_istore_n (lv' := [(0, .int y5)]) (pc' := 48) h dJ6_bitCount_0f7a4_47 rfl rfl (Nat.le_of_ble_eq_true rfl) [0] rfl ?_
  refine k_iload_n (pc' := 49) h dJ6_bitCount_0f7a4_48 rfl rfl 0 rfl ?_
  refine k_bipush (pc' := 51) h dJ6_bitCount_0f7a4_49 rfl cb_63 ?_
  refine k_iand (pc' := 52) h dJ6_bitCount_0f7a4_51 rfl ?_
  exact k_iret h r dJ6_bitCount_0f7a4_52 (lf_i hf)
noncomputable def f_X5_mark (x0 : Int32) (x1 : Int32) (st : St) : Option (Int32 × St) :=
  ((f_X5_isRegular x0 st).bind (fun q1 => (if q1.1 = 0 then (some ((-1 : Int32), q1.2)) else (if x1 ≤ 0 then (some ((-1 : Int32), q1.2)) else (if x1 < (6 : Int32) then (gd (inb x0 6) ((f_X2_isOf (17 + x0.toNatClampNeg) x1 q1.2).bind (fun q6 => (if q6.1 = 0 then ((f_X5_found (3 : Int32) q6.2).bind (fun q18 => (some (q18.1, q18.2)))) else (if x1 = (1 : Int32) then ((f_X2_souringThings (17 + x0.toNatClampNeg) (q6.2.1 15 3) q6.2).bind (fun q9 => (some (q9.1, q9.2)))) else (if x1 = (2 : Int32) then ((f_X2_morningsToChange (17 + x0.toNatClampNeg) (q6.2.1 15 3) q6.2).bind (fun q11 => (some (q11.1, q11.2)))) else (if x1 = (3 : Int32) then ((f_X2_wrongSeconds (17 + x0.toNatClampNeg) q6.2).bind (fun q13 => (some (q13.1, q13.2)))) else (if x1 = (4 : Int32) then ((f_X3_thoseWhoLook (q6.2.1 (17 + x0.toNatClampNeg) 1) (q6.2.1 (17 + x0.toNatClampNeg) 2) q6.2).bind (fun q15 => ((f_J6_bitCount_0f7a4 q15.1 q15.2).bind (fun q16 => (some (q16.1 - (1 : Int32), q16.2)))))) else ((f_X2_otherMornings (17 + x0.toNatClampNeg) (10 : Int32) q6.2).bind (fun q17 => (some (q17.1, q17.2)))))))))))) else (some ((-1 : Int32), q1.2)))))))
set_option maxHeartbeats 4000000 in
theorem c_X5_mark {G : GG} (l : Launch) (x0 : Int32) (x1 : Int32) (st : St)  (rr : Int32) (st' : St) (hf : f_X5_mark x0 x1 st = some (rr, st')) : MM l yX5_mark cX5_mark 4 (some .int) 4 (oC G) [.ref (al (oC G) 0), .int x0, .int x1] st (some (.int rr)) st' := by
  refine mk_MM (by decide +kernel) (Nat.le_of_ble_eq_true rfl) (fun X h r => ?_)
  refine k_sub (lv' := [(0, .ref (al (oC G) 0)), (1, .int x0), (2, .int x1)]) [0, 1, 2] rfl ?_
  unfold f_X5_mark at hf
  refine k_aload_n (pc' := 1) h dX5_mark_0 rfl rfl 0 rfl ?_
  refine k_iload_n (pc' := 2) h dX5_mark_1 rfl rfl 1 rfl ?_
  obtain ⟨q1, hq1, hf⟩ := bd_s hf
  refine k_callV (As := [.int x0]) (rest := []) (rv := some (.int q1.1)) (st' := q1.2) (stk' := [.int q1.1]) (pc' := 5) h dX5_mark_2 rfl ml_X5_110 wc_X5_isRegular wi_X5_isRegular ⟨Nat.le_of_ble_eq_true rfl, Nat.le_of_ble_eq_true rfl⟩ bC_us rfl rfl rfl rfl (Nat.le_of_ble_eq_true rfl) (fun l => c_X5_isRegular l x0 st  _ _ hq1) rfl ?_
  refine k_if_eq (tgt := 18) (pc' := 8) h dX5_mark_5 rfl rfl (fun c2 => ?_) (fun c2 => ?_)
  · replace hf := if_t c2 hf
    refine k_iconst (pc' := 19) h dX5_mark_18 rfl ci_m1 ?_
    exact k_iret h r dX5_mark_19 (lf_i hf)
  · replace hf := if_f c2 hf
    refine k_iload_n (pc' := 9) h dX5_mark_8 rfl rfl 2 rfl ?_
    refine k_if_le (tgt := 18) (pc' := 12) h dX5_mark_9 rfl rfl (fun c3 => ?_) (fun c3 => ?_)
    · replace hf := if_t c3 hf
      refine k_iconst (pc' := 19) h dX5_mark_18 rfl ci_m1 ?_
      exact k_iret h r dX5_mark_19 (lf_i hf)
    · replace hf := if_f c3 hf
      refine k_iload_n (pc' := 13) h dX5_mark_12 rfl rfl 2 rfl ?_
      refine k_bipush (pc' := 15) h dX5_mark_13 rfl cb_6 ?_
      refine k_icmp_lt (tgt := 20) (pc' := 18) h dX5_mark_15 rfl rfl (fun c4 => ?_) (fun c4 => ?_)
      · replace hf := if_t c4 hf
        refine k_aload_n (pc' := 21) h dX5_mark_20 rfl rfl 0 rfl ?_
        refine k_get (v := .ref (al (oC G) 15)) (pc' := 24) h dX5_mark_21 rfl bC_us fl_X5_29 rfl ?_
        refine k_get (v := .ref (al (oC G) 16)) (pc' := 27) h dX5_mark_24 rfl bC_sh fl_X5_116 rfl ?_
        refine k_iload_n (pc' := 28) h dX5_mark_27 rfl rfl 1 rfl ?_
        have g5 := gd_1 hf
        replace hf := gd_2 hf
        refine k_aald (tt := .object "TheUsual$Regular") (pc' := 29) h dX5_mark_28 rfl rC_regs rfl rfl g5 ?_
        refine k_astore_n (lv' := [(0, .ref (al (oC G) 0)), (1, .int x0), (2, .int x1), (3, .ref (al (oC G) (17 + x0.toNatClampNeg)))]) (pc' := 30) h dX5_mark_29 rfl rfl (Nat.le_of_ble_eq_true rfl) [1, 2, 3, 0] rfl ?_
        refine k_aload_n (pc' := 31) h dX5_mark_30 rfl rfl 3 rfl ?_
        refine k_iload_n (pc' := 32) h dX5_mark_31 rfl rfl 2 rfl ?_
        obtain ⟨q6, hq6, hf⟩ := bd_s hf
        refine k_callV (As := [.int x1]) (rest := []) (rv := some (.int q6.1)) (st' := q6.2) (stk' := [.int q6.1]) (pc' := 35) h dX5_mark_32 rfl ml_X5_120 wc_X2_isOf wi_X2_isOf ⟨Nat.le_of_ble_eq_true rfl, Nat.le_of_ble_eq_true rfl⟩ (bC_re (Nat.le_add_right 17 x0.toNatClampNeg) (Nat.add_lt_add_left (inb_lt g5) 17)) rfl rfl rfl rfl (Nat.le_of_ble_eq_true rfl) (fun l => c_X2_isOf l (17 + x0.toNatClampNeg) x1 q1.2 (Nat.le_add_right 17 x0.toNatClampNeg) (Nat.add_lt_add_left (inb_lt g5) 17) _ _ hq6) rfl ?_
        refine k_if_ne (tgt := 44) (pc' := 38) h dX5_mark_35 rfl rfl (fun c7 => ?_) (fun c7 => ?_)
        · replace hf := if_f c7 hf
          refine k_iload_n (pc' := 45) h dX5_mark_44 rfl rfl 2 rfl ?_
          by_cases c8 : x1 = (1 : Int32)
          · replace hf := if_t c8 hf
            refine k_tin (tgt := 76) h 1 dX5_mark_45 (by rw [c8]; decide +kernel) (by decide) (by decide) rfl rfl ?_
            refine k_aload_n (pc' := 77) h dX5_mark_76 rfl rfl 3 rfl ?_
            refine k_aload_n (pc' := 78) h dX5_mark_77 rfl rfl 0 rfl ?_
            refine k_get (v := .ref (al (oC G) 15)) (pc' := 81) h dX5_mark_78 rfl bC_us fl_X5_29 rfl ?_
            refine k_get (v := .int (q6.2.1 15 3)) (pc' := 84) h dX5_mark_81 rfl bC_sh fl_X5_125 rfl ?_
            obtain ⟨q9, hq9, hf⟩ := bd_s hf
            refine k_callV (As := [.int (q6.2.1 15 3)]) (rest := []) (rv := some (.int q9.1)) (st' := q9.2) (stk' := [.int q9.1]) (pc' := 87) h dX5_mark_84 rfl ml_X5_128 wc_X2_souringThings wi_X2_souringThings ⟨Nat.le_of_ble_eq_true rfl, Nat.le_of_ble_eq_true rfl⟩ (bC_re (Nat.le_add_right 17 x0.toNatClampNeg) (Nat.add_lt_add_left (inb_lt g5) 17)) rfl rfl rfl rfl (Nat.le_of_ble_eq_true rfl) (fun l => c_X2_souringThings l (17 + x0.toNatClampNeg) (q6.2.1 15 3) q6.2 (Nat.le_add_right 17 x0.toNatClampNeg) (Nat.add_lt_add_left (inb_lt g5) 17) _ _ hq9) rfl ?_
            exact k_iret h r dX5_mark_87 (lf_i hf)
          replace hf := if_f c8 hf
          by_cases c10 : x1 = (2 : Int32)
          · replace hf := if_t c10 hf
            refine k_tin (tgt := 88) h 2 dX5_mark_45 (by rw [c10]; decide +kernel) (by decide) (by decide) rfl rfl ?_
            refine k_aload_n (pc' := 89) h dX5_mark_88 rfl rfl 3 rfl ?_
            refine k_aload_n (pc' := 90) h dX5_mark_89 rfl rfl 0 rfl ?_
            refine k_get (v := .ref (al (oC G) 15)) (pc' := 93) h dX5_mark_90 rfl bC_us fl_X5_29 rfl ?_
            refine k_get (v := .int (q6.2.1 15 3)) (pc' := 96) h dX5_mark_93 rfl bC_sh fl_X5_125 rfl ?_
            obtain ⟨q11, hq11, hf⟩ := bd_s hf
            refine k_callV (As := [.int (q6.2.1 15 3)]) (rest := []) (rv := some (.int q11.1)) (st' := q11.2) (stk' := [.int q11.1]) (pc' := 99) h dX5_mark_96 rfl ml_X5_131 wc_X2_morningsToChange wi_X2_morningsToChange ⟨Nat.le_of_ble_eq_true rfl, Nat.le_of_ble_eq_true rfl⟩ (bC_re (Nat.le_add_right 17 x0.toNatClampNeg) (Nat.add_lt_add_left (inb_lt g5) 17)) rfl rfl rfl rfl (Nat.le_of_ble_eq_true rfl) (fun l => c_X2_morningsToChange l (17 + x0.toNatClampNeg) (q6.2.1 15 3) q6.2 (Nat.le_add_right 17 x0.toNatClampNeg) (Nat.add_lt_add_left (inb_lt g5) 17) _ _ hq11) rfl ?_
            exact k_iret h r dX5_mark_99 (lf_i hf)
          replace hf := if_f c10 hf
          by_cases c12 : x1 = (3 : Int32)
          · replace hf := if_t c12 hf
            refine k_tin (tgt := 100) h 3 dX5_mark_45 (by rw [c12]; decide +kernel) (by decide) (by decide) rfl rfl ?_
            refine k_aload_n (pc' := 101) h dX5_mark_100 rfl rfl 3 rfl ?_
            obtain ⟨q13, hq13, hf⟩ := bd_s hf
            refine k_callV (As := []) (rest := []) (rv := some (.int q13.1)) (st' := q13.2) (stk' := [.int q13.1]) (pc' := 104) h dX5_mark_101 rfl ml_X5_134 wc_X2_wrongSeconds wi_X2_wrongSeconds ⟨Nat.le_of_ble_eq_true rfl, Nat.le_of_ble_eq_true rfl⟩ (bC_re (Nat.le_add_right 17 x0.toNatClampNeg) (Nat.add_lt_add_left (inb_lt g5) 17)) rfl rfl rfl rfl (Nat.le_of_ble_eq_true rfl) (fun l => c_X2_wrongSeconds l (17 + x0.toNatClampNeg) q6.2 (Nat.le_add_right 17 x0.toNatClampNeg) (Nat.add_lt_add_left (inb_lt g5) 17) _ _ hq13) rfl ?_
            exact k_iret h r dX5_mark_104 (lf_i hf)
          replace hf := if_f c12 hf
          by_cases c14 : x1 = (4 : Int32)
          · replace hf := if_t c14 hf
            refine k_tin (tgt := 105) h 4 dX5_mark_45 (by rw [c14]; decide +kernel) (by decide) (by decide) rfl rfl ?_
            refine k_aload_n (pc' := 106) h dX5_mark_105 rfl rfl 0 rfl ?_
            refine k_get (v := .ref (al (oC G) 15)) (pc' := 109) h dX5_mark_106 rfl bC_us fl_X5_29 rfl ?_
            refine k_aload_n (pc' := 110) h dX5_mark_109 rfl rfl 3 rfl ?_
            refine k_get (v := .int (q6.2.1 (17 + x0.toNatClampNeg) 1)) (pc' := 113) h dX5_mark_110 rfl (bC_re (Nat.le_add_right 17 x0.toNatClampNeg) (Nat.add_lt_add_left (inb_lt g5) 17)) fl_X5_138 rfl ?_
            refine k_aload_n (pc' := 114) h dX5_mark_113 rfl rfl 3 rfl ?_
            refine k_get (v := .int (q6.2.1 (17 + x0.toNatClampNeg) 2)) (pc' := 117) h dX5_mark_114 rfl (bC_re (Nat.le_add_right 17 x0.toNatClampNeg) (Nat.add_lt_add_left (inb_lt g5) 17)) fl_X5_141 rfl ?_
            obtain ⟨q15, hq15, hf⟩ := bd_s hf
            refine k_callV (As := [.int (q6.2.1 (17 + x0.toNatClampNeg) 1), .int (q6.2.1 (17 + x0.toNatClampNeg) 2)]) (rest := []) (rv := some (.int q15.1)) (st' := q15.2) (stk' := [.int q15.1]) (pc' := 120) h dX5_mark_117 rfl ml_X5_144 wc_X3_thoseWhoLook wi_X3_thoseWhoLook ⟨Nat.le_of_ble_eq_true rfl, Nat.le_of_ble_eq_true rfl⟩ bC_sh rfl rfl rfl rfl (Nat.le_of_ble_eq_true rfl) (fun l => c_X3_thoseWhoLook l (q6.2.1 (17 + x0.toNatClampNeg) 1) (q6.2.1 (17 + x0.toNatClampNeg) 2) q6.2  _ _ hq15) rfl ?_
            obtain ⟨q16, hq16, hf⟩ := bd_s hf
            refine k_callS (As := [.int q15.1]) (rest := []) (rv := some (.int q16.1)) (st' := q16.2) (stk' := [.int q16.1]) (pc' := 123) h dX5_mark_120 rfl ml_X5_147 wc_J6_bitCount_0f7a4 ws_J6_bitCount_0f7a4 ⟨Nat.le_of_ble_eq_true rfl, Nat.le_of_ble_eq_true rfl⟩ rfl rfl (Nat.le_of_ble_eq_true rfl) (fun l => c_J6_bitCount_0f7a4 l q15.1 q15.2  _ _ hq16) rfl ?_
            refine k_iconst (pc' := 124) h dX5_mark_123 rfl ci_1 ?_
            refine k_isub (pc' := 125) h dX5_mark_124 rfl ?_
            exact k_iret h r dX5_mark_125 (lf_i hf)
          replace hf := if_f c14 hf
          have hsw : x1.toInt ≠ 1 ∧ x1.toInt ≠ 2 ∧ x1.toInt ≠ 3 ∧ x1.toInt ≠ 4 := ⟨sw_ne c8 (by decide +kernel), sw_ne c10 (by decide +kernel), sw_ne c12 (by decide +kernel), sw_ne c14 (by decide +kernel)⟩
          refine k_tout (tgt := 126) h dX5_mark_45 (by omega) rfl ?_
          refine k_aload_n (pc' := 127) h dX5_mark_126 rfl rfl 3 rfl ?_
          refine k_bipush (pc' := 129) h dX5_mark_127 rfl cb_10 ?_
          obtain ⟨q17, hq17, hf⟩ := bd_s hf
          refine k_callV (As := [.int (10 : Int32)]) (rest := []) (rv := some (.int q17.1)) (st' := q17.2) (stk' := [.int q17.1]) (pc' := 132) h dX5_mark_129 rfl ml_X5_152 wc_X2_otherMornings wi_X2_otherMornings ⟨Nat.le_of_ble_eq_true rfl, Nat.le_of_ble_eq_true rfl⟩ (bC_re (Nat.le_add_right 17 x0.toNatClampNeg) (Nat.add_lt_add_left (inb_lt g5) 17)) rfl rfl rfl rfl (Nat.le_of_ble_eq_true rfl) (fun l => c_X2_otherMornings l (17 + x0.toNatClampNeg) (10 : Int32) q6.2 (Nat.le_add_right 17 x0.toNatClampNeg) (Nat.add_lt_add_left (inb_lt g5) 17) _ _ hq17) rfl ?_
          exact k_iret h r dX5_mark_132 (lf_i hf)
        · replace hf := if_t c7 hf
          refine k_aload_n (pc' := 39) h dX5_mark_38 rfl rfl 0 rfl ?_
          refine k_iconst (pc' := 40) h dX5_mark_39 rfl ci_3 ?_
          obtain ⟨q18, hq18, hf⟩ := bd_s hf
          refine k_callV (As := [.int (3 : Int32)]) (rest := []) (rv := some (.int q18.1)) (st' := q18.2) (stk' := [.int q18.1]) (pc' := 43) h dX5_mark_40 rfl ml_X5_68 wc_X5_found wi_X5_found ⟨Nat.le_of_ble_eq_true rfl, Nat.le_of_ble_eq_true rfl⟩ bC_us rfl rfl rfl rfl (Nat.le_of_ble_eq_true rfl) (fun l => c_X5_found l (3 : Int32) q6.2  _ _ hq18) rfl ?_
          exact k_iret h r dX5_mark_43 (lf_i hf)
      · replace hf := if_f c4 hf
        refine k_iconst (pc' := 19) h dX5_mark_18 rfl ci_m1 ?_
        exact k_iret h r dX5_mark_19 (lf_i hf)
noncomputable def f_X5_isThing (x0 : Int32) (st : St) : Option (Int32 × St) :=
  (if x0 < 0 then (some ((0 : Int32), st)) else (if (6 : Int32) ≤ x0 then (some ((0 : Int32), st)) else (some ((1 : Int32), st))))
set_option maxHeartbeats 4000000 in
theorem c_X5_isThing {G : GG} (l : Launch) (x0 : Int32) (st : St)  (rr : Int32) (st' : St) (hf : f_X5_isThing x0 st = some (rr, st')) : MM l yX5_isThing cX5_isThing 1 (some .boolean) 0 (oC G) [.int x0] st (some (.int rr)) st' := by
  refine mk_MM (by decide +kernel) (Nat.le_of_ble_eq_true rfl) (fun X h r => ?_)
  refine k_sub (lv' := [(0, .int x0)]) [0] rfl ?_
  unfold f_X5_isThing at hf
  refine k_iload_n (pc' := 1) h dX5_isThing_0 rfl rfl 0 rfl ?_
  refine k_if_lt (tgt := 14) (pc' := 4) h dX5_isThing_1 rfl rfl (fun c1 => ?_) (fun c1 => ?_)
  · replace hf := if_t c1 hf
    refine k_iconst (pc' := 15) h dX5_isThing_14 rfl ci_0 ?_
    exact k_zret h r dX5_isThing_15 (by decide) (lf_i hf)
  · replace hf := if_f c1 hf
    refine k_iload_n (pc' := 5) h dX5_isThing_4 rfl rfl 0 rfl ?_
    refine k_bipush (pc' := 7) h dX5_isThing_5 rfl cb_6 ?_
    refine k_icmp_ge (tgt := 14) (pc' := 10) h dX5_isThing_7 rfl rfl (fun c2 => ?_) (fun c2 => ?_)
    · replace hf := if_t c2 hf
      refine k_iconst (pc' := 15) h dX5_isThing_14 rfl ci_0 ?_
      exact k_zret h r dX5_isThing_15 (by decide) (lf_i hf)
    · replace hf := if_f c2 hf
      refine k_iconst (pc' := 11) h dX5_isThing_10 rfl ci_1 ?_
      refine k_goto (tgt := 15) h dX5_isThing_11 rfl ?_
      exact k_zret h r dX5_isThing_15 (by decide) (lf_i hf)
noncomputable def f_X5_other (x0 : Int32) (x1 : Int32) (st : St) : Option (Int32 × St) :=
  ((f_X5_isRegular x0 st).bind (fun q1 => (if q1.1 = 0 then (some ((-1 : Int32), q1.2)) else ((f_X5_isThing x1 q1.2).bind (fun q3 => (if q3.1 = 0 then (some ((-1 : Int32), q3.2)) else (if (q3.2.1 33 2) ≤ 0 then (gd (inb x0 6) (lw (q3.2.1 (17 + x0.toNatClampNeg) 4) (fun y7 => (gd (inb x0 6) (ls (sA q3.2 (17 + x0.toNatClampNeg) (upd (q3.2.1 (17 + x0.toNatClampNeg)) 4 x1)) (fun s9 => (some (y7, s9)))))))) else (some ((-4 : Int32), q3.2)))))))))
set_option maxHeartbeats 4000000 in
theorem c_X5_other {G : GG} (l : Launch) (x0 : Int32) (x1 : Int32) (st : St)  (rr : Int32) (st' : St) (hf : f_X5_other x0 x1 st = some (rr, st')) : MM l yX5_other cX5_other 4 (some .int) 1 (oC G) [.ref (al (oC G) 0), .int x0, .int x1] st (some (.int rr)) st' := by
  refine mk_MM (by decide +kernel) (Nat.le_of_ble_eq_true rfl) (fun X h r => ?_)
  refine k_sub (lv' := [(0, .ref (al (oC G) 0)), (1, .int x0), (2, .int x1)]) [0, 1, 2] rfl ?_
  unfold f_X5_other at hf
  refine k_aload_n (pc' := 1) h dX5_other_0 rfl rfl 0 rfl ?_
  refine k_iload_n (pc' := 2) h dX5_other_1 rfl rfl 1 rfl ?_
  obtain ⟨q1, hq1, hf⟩ := bd_s hf
  refine k_callV (As := [.int x0]) (rest := []) (rv := some (.int q1.1)) (st' := q1.2) (stk' := [.int q1.1]) (pc' := 5) h dX5_other_2 rfl ml_X5_110 wc_X5_isRegular wi_X5_isRegular ⟨Nat.le_of_ble_eq_true rfl, Nat.le_of_ble_eq_true rfl⟩ bC_us rfl rfl rfl rfl (Nat.le_of_ble_eq_true rfl) (fun l => c_X5_isRegular l x0 st  _ _ hq1) rfl ?_
  refine k_if_eq (tgt := 15) (pc' := 8) h dX5_other_5 rfl rfl (fun c2 => ?_) (fun c2 => ?_)
  · replace hf := if_t c2 hf
    refine k_iconst (pc' := 16) h dX5_other_15 rfl ci_m1 ?_
    exact k_iret h r dX5_other_16 (lf_i hf)
  · replace hf := if_f c2 hf
    refine k_iload_n (pc' := 9) h dX5_other_8 rfl rfl 2 rfl ?_
    obtain ⟨q3, hq3, hf⟩ := bd_s hf
    refine k_callS (As := [.int x1]) (rest := []) (rv := some (.int q3.1)) (st' := q3.2) (stk' := [.int q3.1]) (pc' := 12) h dX5_other_9 rfl ml_X5_155 wc_X5_isThing ws_X5_isThing ⟨Nat.le_of_ble_eq_true rfl, Nat.le_of_ble_eq_true rfl⟩ rfl rfl (Nat.le_of_ble_eq_true rfl) (fun l => c_X5_isThing l x1 q1.2  _ _ hq3) rfl ?_
    refine k_if_ne (tgt := 17) (pc' := 15) h dX5_other_12 rfl rfl (fun c4 => ?_) (fun c4 => ?_)
    · replace hf := if_f c4 hf
      refine k_aload_n (pc' := 18) h dX5_other_17 rfl rfl 0 rfl ?_
      refine k_get (v := .ref (al (oC G) 15)) (pc' := 21) h dX5_other_18 rfl bC_us fl_X5_29 rfl ?_
      refine k_get (v := .ref (al (oC G) 33)) (pc' := 24) h dX5_other_21 rfl bC_sh fl_X5_158 rfl ?_
      refine k_get (v := .int (q3.2.1 33 2)) (pc' := 27) h dX5_other_24 rfl (bC_tu (Nat.le_of_ble_eq_true rfl : 30 ≤ 33) (Nat.le_of_ble_eq_true rfl : 33 < 34)) fl_X5_162 rfl ?_
      refine k_if_le (tgt := 33) (pc' := 30) h dX5_other_27 rfl rfl (fun c5 => ?_) (fun c5 => ?_)
      · replace hf := if_t c5 hf
        refine k_aload_n (pc' := 34) h dX5_other_33 rfl rfl 0 rfl ?_
        refine k_get (v := .ref (al (oC G) 15)) (pc' := 37) h dX5_other_34 rfl bC_us fl_X5_29 rfl ?_
        refine k_get (v := .ref (al (oC G) 16)) (pc' := 40) h dX5_other_37 rfl bC_sh fl_X5_116 rfl ?_
        refine k_iload_n (pc' := 41) h dX5_other_40 rfl rfl 1 rfl ?_
        have g6 := gd_1 hf
        replace hf := gd_2 hf
        refine k_aald (tt := .object "TheUsual$Regular") (pc' := 42) h dX5_other_41 rfl rC_regs rfl rfl g6 ?_
        refine k_get (v := .int (q3.2.1 (17 + x0.toNatClampNeg) 4)) (pc' := 45) h dX5_other_42 rfl (bC_re (Nat.le_add_right 17 x0.toNatClampNeg) (Nat.add_lt_add_left (inb_lt g6) 17)) fl_X5_165 rfl ?_
        obtain ⟨y7, hy7, hf⟩ := lw_s hf
        refine k_eqi hy7 ?_
        refine k_istore_n (lv' := [(0, .ref (al (oC G) 0)), (1, .int x0), (2, .int x1), (3, .int y7)]) (pc' := 46) h dX5_other_45 rfl rfl (Nat.le_of_ble_eq_true rfl) [1, 2, 3, 0] rfl ?_
        refine k_aload_n (pc' := 47) h dX5_other_46 rfl rfl 0 rfl ?_
        refine k_get (v := .ref (al (oC G) 15)) (pc' := 50) h dX5_other_47 rfl bC_us fl_X5_29 rfl ?_
        refine k_get (v := .ref (al (oC G) 16)) (pc' := 53) h dX5_other_50 rfl bC_sh fl_X5_116 rfl ?_
        refine k_iload_n (pc' := 54) h dX5_other_53 rfl rfl 1 rfl ?_
        have g8 := gd_1 hf
        replace hf := gd_2 hf
        refine k_aald (tt := .object "TheUsual$Regular") (pc' := 55) h dX5_other_54 rfl rC_regs rfl rfl g8 ?_
        refine k_iload_n (pc' := 56) h dX5_other_55 rfl rfl 2 rfl ?_
        refine k_put (pc' := 59) h dX5_other_56 rfl (bC_re (Nat.le_add_right 17 x0.toNatClampNeg) (Nat.add_lt_add_left (inb_lt g8) 17)) fp_X5_165 sf_re_4 sj_re_4 ?_
        obtain ⟨s9, hs9, hf⟩ := ls_s hf
        refine k_st hs9 ?_
        refine k_iload_n (pc' := 60) h dX5_other_59 rfl rfl 3 rfl ?_
        exact k_iret h r dX5_other_60 (lf_i hf)
      · replace hf := if_f c5 hf
        refine k_bipush (pc' := 32) h dX5_other_30 rfl cb_m4 ?_
        exact k_iret h r dX5_other_32 (lf_i hf)
    · replace hf := if_t c4 hf
      refine k_iconst (pc' := 16) h dX5_other_15 rfl ci_m1 ?_
      exact k_iret h r dX5_other_16 (lf_i hf)
noncomputable def f_X5_isThingOrNone (x0 : Int32) (st : St) : Option (Int32 × St) :=
  (if x0 = (-9 : Int32) then (some ((1 : Int32), st)) else ((f_X5_isThing x0 st).bind (fun q2 => (if q2.1 = 0 then (some ((0 : Int32), q2.2)) else (some ((1 : Int32), q2.2))))))
set_option maxHeartbeats 4000000 in
theorem c_X5_isThingOrNone {G : GG} (l : Launch) (x0 : Int32) (st : St)  (rr : Int32) (st' : St) (hf : f_X5_isThingOrNone x0 st = some (rr, st')) : MM l yX5_isThingOrNone cX5_isThingOrNone 1 (some .boolean) 1 (oC G) [.int x0] st (some (.int rr)) st' := by
  refine mk_MM (by decide +kernel) (Nat.le_of_ble_eq_true rfl) (fun X h r => ?_)
  refine k_sub (lv' := [(0, .int x0)]) [0] rfl ?_
  unfold f_X5_isThingOrNone at hf
  refine k_iload_n (pc' := 1) h dX5_isThingOrNone_0 rfl rfl 0 rfl ?_
  refine k_bipush (pc' := 3) h dX5_isThingOrNone_1 rfl cb_m9 ?_
  refine k_icmp_eq (tgt := 13) (pc' := 6) h dX5_isThingOrNone_3 rfl rfl (fun c1 => ?_) (fun c1 => ?_)
  · replace hf := if_t c1 hf
    refine k_iconst (pc' := 14) h dX5_isThingOrNone_13 rfl ci_1 ?_
    refine k_goto (tgt := 18) h dX5_isThingOrNone_14 rfl ?_
    exact k_zret h r dX5_isThingOrNone_18 (by decide) (lf_i hf)
  · replace hf := if_f c1 hf
    refine k_iload_n (pc' := 7) h dX5_isThingOrNone_6 rfl rfl 0 rfl ?_
    obtain ⟨q2, hq2, hf⟩ := bd_s hf
    refine k_callS (As := [.int x0]) (rest := []) (rv := some (.int q2.1)) (st' := q2.2) (stk' := [.int q2.1]) (pc' := 10) h dX5_isThingOrNone_7 rfl ml_X5_155 wc_X5_isThing ws_X5_isThing ⟨Nat.le_of_ble_eq_true rfl, Nat.le_of_ble_eq_true rfl⟩ rfl rfl (Nat.le_of_ble_eq_true rfl) (fun l => c_X5_isThing l x0 st  _ _ hq2) rfl ?_
    refine k_if_eq (tgt := 17) (pc' := 13) h dX5_isThingOrNone_10 rfl rfl (fun c3 => ?_) (fun c3 => ?_)
    · replace hf := if_t c3 hf
      refine k_iconst (pc' := 18) h dX5_isThingOrNone_17 rfl ci_0 ?_
      exact k_zret h r dX5_isThingOrNone_18 (by decide) (lf_i hf)
    · replace hf := if_f c3 hf
      refine k_iconst (pc' := 14) h dX5_isThingOrNone_13 rfl ci_1 ?_
      refine k_goto (tgt := 18) h dX5_isThingOrNone_14 rfl ?_
      exact k_zret h r dX5_isThingOrNone_18 (by decide) (lf_i hf)
noncomputable def f_X5_serve (x0 : Int32) (x1 : Int32) (st : St) : Option (Int32 × St) :=
  ((f_X5_isRegular x0 st).bind (fun q1 => (if q1.1 = 0 then (some ((-1 : Int32), q1.2)) else ((f_X5_isThingOrNone x1 q1.2).bind (fun q3 => (if q3.1 = 0 then (some ((-1 : Int32), q3.2)) else (gd (inb x0 6) ((f_X2_secondsFor (17 + x0.toNatClampNeg) x1 (q3.2.1 15 3) q3.2).bind (fun q6 => (if ((q3.2.1 15 4) + q6.1) ≤ (9999 : Int32) then (if (q6.2.1 33 2) < (60 : Int32) then ((f_X3_serveOne x0 x1 q6.2).bind (fun q9 => (some (q9.1, q9.2)))) else (some ((-2 : Int32), q6.2))) else (some ((-4 : Int32), q6.2))))))))))))
set_option maxHeartbeats 4000000 in
theorem c_X5_serve {G : GG} (l : Launch) (x0 : Int32) (x1 : Int32) (st : St)  (rr : Int32) (st' : St) (hf : f_X5_serve x0 x1 st = some (rr, st')) : MM l yX5_serve cX5_serve 3 (some .int) 6 (oC G) [.ref (al (oC G) 0), .int x0, .int x1] st (some (.int rr)) st' := by
  refine mk_MM (by decide +kernel) (Nat.le_of_ble_eq_true rfl) (fun X h r => ?_)
  refine k_sub (lv' := [(0, .ref (al (oC G) 0)), (1, .int x0), (2, .int x1)]) [0, 1, 2] rfl ?_
  unfold f_X5_serve at hf
  refine k_aload_n (pc' := 1) h dX5_serve_0 rfl rfl 0 rfl ?_
  refine k_iload_n (pc' := 2) h dX5_serve_1 rfl rfl 1 rfl ?_
  obtain ⟨q1, hq1, hf⟩ := bd_s hf
  refine k_callV (As := [.int x0]) (rest := []) (rv := some (.int q1.1)) (st' := q1.2) (stk' := [.int q1.1]) (pc' := 5) h dX5_serve_2 rfl ml_X5_110 wc_X5_isRegular wi_X5_isRegular ⟨Nat.le_of_ble_eq_true rfl, Nat.le_of_ble_eq_true rfl⟩ bC_us rfl rfl rfl rfl (Nat.le_of_ble_eq_true rfl) (fun l => c_X5_isRegular l x0 st  _ _ hq1) rfl ?_
  refine k_if_eq (tgt := 15) (pc' := 8) h dX5_serve_5 rfl rfl (fun c2 => ?_) (fun c2 => ?_)
  · replace hf := if_t c2 hf
    refine k_iconst (pc' := 16) h dX5_serve_15 rfl ci_m1 ?_
    exact k_iret h r dX5_serve_16 (lf_i hf)
  · replace hf := if_f c2 hf
    refine k_iload_n (pc' := 9) h dX5_serve_8 rfl rfl 2 rfl ?_
    obtain ⟨q3, hq3, hf⟩ := bd_s hf
    refine k_callS (As := [.int x1]) (rest := []) (rv := some (.int q3.1)) (st' := q3.2) (stk' := [.int q3.1]) (pc' := 12) h dX5_serve_9 rfl ml_X5_168 wc_X5_isThingOrNone ws_X5_isThingOrNone ⟨Nat.le_of_ble_eq_true rfl, Nat.le_of_ble_eq_true rfl⟩ rfl rfl (Nat.le_of_ble_eq_true rfl) (fun l => c_X5_isThingOrNone l x1 q1.2  _ _ hq3) rfl ?_
    refine k_if_ne (tgt := 17) (pc' := 15) h dX5_serve_12 rfl rfl (fun c4 => ?_) (fun c4 => ?_)
    · replace hf := if_f c4 hf
      refine k_aload_n (pc' := 18) h dX5_serve_17 rfl rfl 0 rfl ?_
      refine k_get (v := .ref (al (oC G) 15)) (pc' := 21) h dX5_serve_18 rfl bC_us fl_X5_29 rfl ?_
      refine k_get (v := .int (q3.2.1 15 4)) (pc' := 24) h dX5_serve_21 rfl bC_sh fl_X5_171 rfl ?_
      refine k_aload_n (pc' := 25) h dX5_serve_24 rfl rfl 0 rfl ?_
      refine k_get (v := .ref (al (oC G) 15)) (pc' := 28) h dX5_serve_25 rfl bC_us fl_X5_29 rfl ?_
      refine k_get (v := .ref (al (oC G) 16)) (pc' := 31) h dX5_serve_28 rfl bC_sh fl_X5_116 rfl ?_
      refine k_iload_n (pc' := 32) h dX5_serve_31 rfl rfl 1 rfl ?_
      have g5 := gd_1 hf
      replace hf := gd_2 hf
      refine k_aald (tt := .object "TheUsual$Regular") (pc' := 33) h dX5_serve_32 rfl rC_regs rfl rfl g5 ?_
      refine k_iload_n (pc' := 34) h dX5_serve_33 rfl rfl 2 rfl ?_
      refine k_aload_n (pc' := 35) h dX5_serve_34 rfl rfl 0 rfl ?_
      refine k_get (v := .ref (al (oC G) 15)) (pc' := 38) h dX5_serve_35 rfl bC_us fl_X5_29 rfl ?_
      refine k_get (v := .int (q3.2.1 15 3)) (pc' := 41) h dX5_serve_38 rfl bC_sh fl_X5_125 rfl ?_
      obtain ⟨q6, hq6, hf⟩ := bd_s hf
      refine k_callV (As := [.int x1, .int (q3.2.1 15 3)]) (rest := [.int (q3.2.1 15 4)]) (rv := some (.int q6.1)) (st' := q6.2) (stk' := [.int q6.1, .int (q3.2.1 15 4)]) (pc' := 44) h dX5_serve_41 rfl ml_X5_174 wc_X2_secondsFor wi_X2_secondsFor ⟨Nat.le_of_ble_eq_true rfl, Nat.le_of_ble_eq_true rfl⟩ (bC_re (Nat.le_add_right 17 x0.toNatClampNeg) (Nat.add_lt_add_left (inb_lt g5) 17)) rfl rfl rfl rfl (Nat.le_of_ble_eq_true rfl) (fun l => c_X2_secondsFor l (17 + x0.toNatClampNeg) x1 (q3.2.1 15 3) q3.2 (Nat.le_add_right 17 x0.toNatClampNeg) (Nat.add_lt_add_left (inb_lt g5) 17) _ _ hq6) rfl ?_
      refine k_iadd (pc' := 45) h dX5_serve_44 rfl ?_
      refine k_sipush (pc' := 48) h dX5_serve_45 rfl cs_9999 ?_
      refine k_icmp_le (tgt := 54) (pc' := 51) h dX5_serve_48 rfl rfl (fun c7 => ?_) (fun c7 => ?_)
      · replace hf := if_t c7 hf
        refine k_aload_n (pc' := 55) h dX5_serve_54 rfl rfl 0 rfl ?_
        refine k_get (v := .ref (al (oC G) 15)) (pc' := 58) h dX5_serve_55 rfl bC_us fl_X5_29 rfl ?_
        refine k_get (v := .ref (al (oC G) 33)) (pc' := 61) h dX5_serve_58 rfl bC_sh fl_X5_158 rfl ?_
        refine k_get (v := .int (q6.2.1 33 2)) (pc' := 64) h dX5_serve_61 rfl (bC_tu (Nat.le_of_ble_eq_true rfl : 30 ≤ 33) (Nat.le_of_ble_eq_true rfl : 33 < 34)) fl_X5_162 rfl ?_
        refine k_bipush (pc' := 66) h dX5_serve_64 rfl cb_60 ?_
        refine k_icmp_lt (tgt := 72) (pc' := 69) h dX5_serve_66 rfl rfl (fun c8 => ?_) (fun c8 => ?_)
        · replace hf := if_t c8 hf
          refine k_aload_n (pc' := 73) h dX5_serve_72 rfl rfl 0 rfl ?_
          refine k_get (v := .ref (al (oC G) 15)) (pc' := 76) h dX5_serve_73 rfl bC_us fl_X5_29 rfl ?_
          refine k_iload_n (pc' := 77) h dX5_serve_76 rfl rfl 1 rfl ?_
          refine k_iload_n (pc' := 78) h dX5_serve_77 rfl rfl 2 rfl ?_
          obtain ⟨q9, hq9, hf⟩ := bd_s hf
          refine k_callV (As := [.int x0, .int x1]) (rest := []) (rv := some (.int q9.1)) (st' := q9.2) (stk' := [.int q9.1]) (pc' := 81) h dX5_serve_78 rfl ml_X5_177 wc_X3_serveOne wi_X3_serveOne ⟨Nat.le_of_ble_eq_true rfl, Nat.le_of_ble_eq_true rfl⟩ bC_sh rfl rfl rfl rfl (Nat.le_of_ble_eq_true rfl) (fun l => c_X3_serveOne l x0 x1 q6.2  _ _ hq9) rfl ?_
          exact k_iret h r dX5_serve_81 (lf_i hf)
        · replace hf := if_f c8 hf
          refine k_bipush (pc' := 71) h dX5_serve_69 rfl cb_m2 ?_
          exact k_iret h r dX5_serve_71 (lf_i hf)
      · replace hf := if_f c7 hf
        refine k_bipush (pc' := 53) h dX5_serve_51 rfl cb_m4 ?_
        exact k_iret h r dX5_serve_53 (lf_i hf)
    · replace hf := if_t c4 hf
      refine k_iconst (pc' := 16) h dX5_serve_15 rfl ci_m1 ?_
      exact k_iret h r dX5_serve_16 (lf_i hf)
noncomputable def f_X5_morning  (st : St) : Option (Int32 × St) :=
  (if (st.1 15 2) = 0 then (some ((-4 : Int32), st)) else (if (st.1 33 2) < (60 : Int32) then ((f_X3_beginMorning  st).bind (fun q3 => (some (q3.1 15 3, q3)))) else (some ((-2 : Int32), st))))
set_option maxHeartbeats 4000000 in
theorem c_X5_morning {G : GG} (l : Launch)  (st : St)  (rr : Int32) (st' : St) (hf : f_X5_morning  st = some (rr, st')) : MM l yX5_morning cX5_morning 1 (some .int) 6 (oC G) [.ref (al (oC G) 0)] st (some (.int rr)) st' := by
  refine mk_MM (by decide +kernel) (Nat.le_of_ble_eq_true rfl) (fun X h r => ?_)
  refine k_sub (lv' := [(0, .ref (al (oC G) 0))]) [0] rfl ?_
  unfold f_X5_morning at hf
  refine k_aload_n (pc' := 1) h dX5_morning_0 rfl rfl 0 rfl ?_
  refine k_get (v := .ref (al (oC G) 15)) (pc' := 4) h dX5_morning_1 rfl bC_us fl_X5_29 rfl ?_
  refine k_get (v := .int (st.1 15 2)) (pc' := 7) h dX5_morning_4 rfl bC_sh fl_X5_107 rfl ?_
  refine k_if_ne (tgt := 13) (pc' := 10) h dX5_morning_7 rfl rfl (fun c1 => ?_) (fun c1 => ?_)
  · replace hf := if_f c1 hf
    refine k_aload_n (pc' := 14) h dX5_morning_13 rfl rfl 0 rfl ?_
    refine k_get (v := .ref (al (oC G) 15)) (pc' := 17) h dX5_morning_14 rfl bC_us fl_X5_29 rfl ?_
    refine k_get (v := .ref (al (oC G) 33)) (pc' := 20) h dX5_morning_17 rfl bC_sh fl_X5_158 rfl ?_
    refine k_get (v := .int (st.1 33 2)) (pc' := 23) h dX5_morning_20 rfl (bC_tu (Nat.le_of_ble_eq_true rfl : 30 ≤ 33) (Nat.le_of_ble_eq_true rfl : 33 < 34)) fl_X5_162 rfl ?_
    refine k_bipush (pc' := 25) h dX5_morning_23 rfl cb_60 ?_
    refine k_icmp_lt (tgt := 31) (pc' := 28) h dX5_morning_25 rfl rfl (fun c2 => ?_) (fun c2 => ?_)
    · replace hf := if_t c2 hf
      refine k_aload_n (pc' := 32) h dX5_morning_31 rfl rfl 0 rfl ?_
      refine k_get (v := .ref (al (oC G) 15)) (pc' := 35) h dX5_morning_32 rfl bC_us fl_X5_29 rfl ?_
      obtain ⟨q3, hq3, hf⟩ := bd_s hf
      refine k_callV (As := []) (rest := []) (rv := none) (st' := q3) (stk' := []) (pc' := 38) h dX5_morning_35 rfl ml_X5_180 wc_X3_beginMorning wi_X3_beginMorning ⟨Nat.le_of_ble_eq_true rfl, Nat.le_of_ble_eq_true rfl⟩ bC_sh rfl rfl rfl rfl (Nat.le_of_ble_eq_true rfl) (fun l => c_X3_beginMorning l  st  _ hq3) rfl ?_
      refine k_aload_n (pc' := 39) h dX5_morning_38 rfl rfl 0 rfl ?_
      refine k_get (v := .ref (al (oC G) 15)) (pc' := 42) h dX5_morning_39 rfl bC_us fl_X5_29 rfl ?_
      refine k_get (v := .int (q3.1 15 3)) (pc' := 45) h dX5_morning_42 rfl bC_sh fl_X5_125 rfl ?_
      exact k_iret h r dX5_morning_45 (lf_i hf)
    · replace hf := if_f c2 hf
      refine k_bipush (pc' := 30) h dX5_morning_28 rfl cb_m2 ?_
      exact k_iret h r dX5_morning_30 (lf_i hf)
  · replace hf := if_t c1 hf
    refine k_bipush (pc' := 12) h dX5_morning_10 rfl cb_m4 ?_
    exact k_iret h r dX5_morning_12 (lf_i hf)
noncomputable def f_X5_undo (x0 : Int32) (st : St) : Option (Int32 × St) :=
  (if x0 < 0 then (some ((-1 : Int32), st)) else (if x0 ≤ (st.1 33 2) then (lw ((st.1 33 2) - x0) (fun y3 => ((f_X3_goThrough x0 st).bind (fun q4 => (some (y3, q4)))))) else (some ((-1 : Int32), st))))
set_option maxHeartbeats 4000000 in
theorem c_X5_undo {G : GG} (l : Launch) (x0 : Int32) (st : St)  (rr : Int32) (st' : St) (hf : f_X5_undo x0 st = some (rr, st')) : MM l yX5_undo cX5_undo 3 (some .int) 6 (oC G) [.ref (al (oC G) 0), .int x0] st (some (.int rr)) st' := by
  refine mk_MM (by decide +kernel) (Nat.le_of_ble_eq_true rfl) (fun X h r => ?_)
  refine k_sub (lv' := [(0, .ref (al (oC G) 0)), (1, .int x0)]) [0, 1] rfl ?_
  unfold f_X5_undo at hf
  refine k_iload_n (pc' := 1) h dX5_undo_0 rfl rfl 1 rfl ?_
  refine k_if_lt (tgt := 18) (pc' := 4) h dX5_undo_1 rfl rfl (fun c1 => ?_) (fun c1 => ?_)
  · replace hf := if_t c1 hf
    refine k_iconst (pc' := 19) h dX5_undo_18 rfl ci_m1 ?_
    exact k_iret h r dX5_undo_19 (lf_i hf)
  · replace hf := if_f c1 hf
    refine k_iload_n (pc' := 5) h dX5_undo_4 rfl rfl 1 rfl ?_
    refine k_aload_n (pc' := 6) h dX5_undo_5 rfl rfl 0 rfl ?_
    refine k_get (v := .ref (al (oC G) 15)) (pc' := 9) h dX5_undo_6 rfl bC_us fl_X5_29 rfl ?_
    refine k_get (v := .ref (al (oC G) 33)) (pc' := 12) h dX5_undo_9 rfl bC_sh fl_X5_158 rfl ?_
    refine k_get (v := .int (st.1 33 2)) (pc' := 15) h dX5_undo_12 rfl (bC_tu (Nat.le_of_ble_eq_true rfl : 30 ≤ 33) (Nat.le_of_ble_eq_true rfl : 33 < 34)) fl_X5_162 rfl ?_
    refine k_icmp_le (tgt := 20) (pc' := 18) h dX5_undo_15 rfl rfl (fun c2 => ?_) (fun c2 => ?_)
    · replace hf := if_t c2 hf
      refine k_aload_n (pc' := 21) h dX5_undo_20 rfl rfl 0 rfl ?_
      refine k_get (v := .ref (al (oC G) 15)) (pc' := 24) h dX5_undo_21 rfl bC_us fl_X5_29 rfl ?_
      refine k_get (v := .ref (al (oC G) 33)) (pc' := 27) h dX5_undo_24 rfl bC_sh fl_X5_158 rfl ?_
      refine k_get (v := .int (st.1 33 2)) (pc' := 30) h dX5_undo_27 rfl (bC_tu (Nat.le_of_ble_eq_true rfl : 30 ≤ 33) (Nat.le_of_ble_eq_true rfl : 33 < 34)) fl_X5_162 rfl ?_
      refine k_iload_n (pc' := 31) h dX5_undo_30 rfl rfl 1 rfl ?_
      refine k_isub (pc' := 32) h dX5_undo_31 rfl ?_
      obtain ⟨y3, hy3, hf⟩ := lw_s hf
      refine k_eqi hy3 ?_
      refine k_istore_n (lv' := [(0, .ref (al (oC G) 0)), (1, .int x0), (2, .int y3)]) (pc' := 33) h dX5_undo_32 rfl rfl (Nat.le_of_ble_eq_true rfl) [1, 2, 0] rfl ?_
      refine k_aload_n (pc' := 34) h dX5_undo_33 rfl rfl 0 rfl ?_
      refine k_get (v := .ref (al (oC G) 15)) (pc' := 37) h dX5_undo_34 rfl bC_us fl_X5_29 rfl ?_
      refine k_iload_n (pc' := 38) h dX5_undo_37 rfl rfl 1 rfl ?_
      obtain ⟨q4, hq4, hf⟩ := bd_s hf
      refine k_callV (As := [.int x0]) (rest := []) (rv := none) (st' := q4) (stk' := []) (pc' := 41) h dX5_undo_38 rfl ml_X5_183 wc_X3_goThrough wi_X3_goThrough ⟨Nat.le_of_ble_eq_true rfl, Nat.le_of_ble_eq_true rfl⟩ bC_sh rfl rfl rfl rfl (Nat.le_of_ble_eq_true rfl) (fun l => c_X3_goThrough l x0 st  _ hq4) rfl ?_
      refine k_iload_n (pc' := 42) h dX5_undo_41 rfl rfl 2 rfl ?_
      exact k_iret h r dX5_undo_42 (lf_i hf)
    · replace hf := if_f c2 hf
      refine k_iconst (pc' := 19) h dX5_undo_18 rfl ci_m1 ?_
      exact k_iret h r dX5_undo_19 (lf_i hf)
noncomputable def f_X5_isPlace (x0 : Int32) (st : St) : Option (Int32 × St) :=
  (if x0 < 0 then (some ((0 : Int32), st)) else (if (3 : Int32) ≤ x0 then (some ((0 : Int32), st)) else (some ((1 : Int32), st))))
set_option maxHeartbeats 4000000 in
theorem c_X5_isPlace {G : GG} (l : Launch) (x0 : Int32) (st : St)  (rr : Int32) (st' : St) (hf : f_X5_isPlace x0 st = some (rr, st')) : MM l yX5_isPlace cX5_isPlace 1 (some .boolean) 0 (oC G) [.int x0] st (some (.int rr)) st' := by
  refine mk_MM (by decide +kernel) (Nat.le_of_ble_eq_true rfl) (fun X h r => ?_)
  refine k_sub (lv' := [(0, .int x0)]) [0] rfl ?_
  unfold f_X5_isPlace at hf
  refine k_iload_n (pc' := 1) h dX5_isPlace_0 rfl rfl 0 rfl ?_
  refine k_if_lt (tgt := 13) (pc' := 4) h dX5_isPlace_1 rfl rfl (fun c1 => ?_) (fun c1 => ?_)
  · replace hf := if_t c1 hf
    refine k_iconst (pc' := 14) h dX5_isPlace_13 rfl ci_0 ?_
    exact k_zret h r dX5_isPlace_14 (by decide) (lf_i hf)
  · replace hf := if_f c1 hf
    refine k_iload_n (pc' := 5) h dX5_isPlace_4 rfl rfl 0 rfl ?_
    refine k_iconst (pc' := 6) h dX5_isPlace_5 rfl ci_3 ?_
    refine k_icmp_ge (tgt := 13) (pc' := 9) h dX5_isPlace_6 rfl rfl (fun c2 => ?_) (fun c2 => ?_)
    · replace hf := if_t c2 hf
      refine k_iconst (pc' := 14) h dX5_isPlace_13 rfl ci_0 ?_
      exact k_zret h r dX5_isPlace_14 (by decide) (lf_i hf)
    · replace hf := if_f c2 hf
      refine k_iconst (pc' := 10) h dX5_isPlace_9 rfl ci_1 ?_
      refine k_goto (tgt := 14) h dX5_isPlace_10 rfl ?_
      exact k_zret h r dX5_isPlace_14 (by decide) (lf_i hf)
noncomputable def f_X5_keep (x0 : Int32) (st : St) : Option (Int32 × St) :=
  ((f_X5_isPlace x0 st).bind (fun q1 => (if q1.1 = 0 then (some ((-1 : Int32), q1.2)) else (if (q1.2.1 15 2) = 0 then (some ((-4 : Int32), q1.2)) else (gd (inb x0 3) ((f_X0_takeFrom (24 + x0.toNatClampNeg) q1.2).bind (fun q5 => (some (q5.1 33 2, q5)))))))))
set_option maxHeartbeats 4000000 in
theorem c_X5_keep {G : GG} (l : Launch) (x0 : Int32) (st : St)  (rr : Int32) (st' : St) (hf : f_X5_keep x0 st = some (rr, st')) : MM l yX5_keep cX5_keep 2 (some .int) 3 (oC G) [.ref (al (oC G) 0), .int x0] st (some (.int rr)) st' := by
  refine mk_MM (by decide +kernel) (Nat.le_of_ble_eq_true rfl) (fun X h r => ?_)
  refine k_sub (lv' := [(0, .ref (al (oC G) 0)), (1, .int x0)]) [0, 1] rfl ?_
  unfold f_X5_keep at hf
  refine k_iload_n (pc' := 1) h dX5_keep_0 rfl rfl 1 rfl ?_
  obtain ⟨q1, hq1, hf⟩ := bd_s hf
  refine k_callS (As := [.int x0]) (rest := []) (rv := some (.int q1.1)) (st' := q1.2) (stk' := [.int q1.1]) (pc' := 4) h dX5_keep_1 rfl ml_X5_187 wc_X5_isPlace ws_X5_isPlace ⟨Nat.le_of_ble_eq_true rfl, Nat.le_of_ble_eq_true rfl⟩ rfl rfl (Nat.le_of_ble_eq_true rfl) (fun l => c_X5_isPlace l x0 st  _ _ hq1) rfl ?_
  refine k_if_ne (tgt := 9) (pc' := 7) h dX5_keep_4 rfl rfl (fun c2 => ?_) (fun c2 => ?_)
  · replace hf := if_f c2 hf
    refine k_aload_n (pc' := 10) h dX5_keep_9 rfl rfl 0 rfl ?_
    refine k_get (v := .ref (al (oC G) 15)) (pc' := 13) h dX5_keep_10 rfl bC_us fl_X5_29 rfl ?_
    refine k_get (v := .int (q1.2.1 15 2)) (pc' := 16) h dX5_keep_13 rfl bC_sh fl_X5_107 rfl ?_
    refine k_if_ne (tgt := 22) (pc' := 19) h dX5_keep_16 rfl rfl (fun c3 => ?_) (fun c3 => ?_)
    · replace hf := if_f c3 hf
      refine k_aload_n (pc' := 23) h dX5_keep_22 rfl rfl 0 rfl ?_
      refine k_get (v := .ref (al (oC G) 23)) (pc' := 26) h dX5_keep_23 rfl bC_us fl_X5_35 rfl ?_
      refine k_iload_n (pc' := 27) h dX5_keep_26 rfl rfl 1 rfl ?_
      have g4 := gd_1 hf
      replace hf := gd_2 hf
      refine k_aald (tt := .object "TheUsual$Kept") (pc' := 28) h dX5_keep_27 rfl rC_plc rfl rfl g4 ?_
      refine k_aload_n (pc' := 29) h dX5_keep_28 rfl rfl 0 rfl ?_
      refine k_get (v := .ref (al (oC G) 15)) (pc' := 32) h dX5_keep_29 rfl bC_us fl_X5_29 rfl ?_
      obtain ⟨q5, hq5, hf⟩ := bd_s hf
      refine k_callV (As := [.ref (al (oC G) 15)]) (rest := []) (rv := none) (st' := q5) (stk' := []) (pc' := 35) h dX5_keep_32 rfl ml_X5_190 wc_X0_takeFrom wi_X0_takeFrom ⟨Nat.le_of_ble_eq_true rfl, Nat.le_of_ble_eq_true rfl⟩ (bC_ke (Nat.le_add_right 24 x0.toNatClampNeg) (Nat.add_lt_add_left (inb_lt g4) 24)) rfl rfl rfl rfl (Nat.le_of_ble_eq_true rfl) (fun l => c_X0_takeFrom l (24 + x0.toNatClampNeg) q1.2 (Nat.le_add_right 24 x0.toNatClampNeg) (Nat.add_lt_add_left (inb_lt g4) 24) _ hq5) rfl ?_
      refine k_aload_n (pc' := 36) h dX5_keep_35 rfl rfl 0 rfl ?_
      refine k_get (v := .ref (al (oC G) 15)) (pc' := 39) h dX5_keep_36 rfl bC_us fl_X5_29 rfl ?_
      refine k_get (v := .ref (al (oC G) 33)) (pc' := 42) h dX5_keep_39 rfl bC_sh fl_X5_158 rfl ?_
      refine k_get (v := .int (q5.1 33 2)) (pc' := 45) h dX5_keep_42 rfl (bC_tu (Nat.le_of_ble_eq_true rfl : 30 ≤ 33) (Nat.le_of_ble_eq_true rfl : 33 < 34)) fl_X5_162 rfl ?_
      exact k_iret h r dX5_keep_45 (lf_i hf)
    · replace hf := if_t c3 hf
      refine k_bipush (pc' := 21) h dX5_keep_19 rfl cb_m4 ?_
      exact k_iret h r dX5_keep_21 (lf_i hf)
  · replace hf := if_t c2 hf
    refine k_iconst (pc' := 8) h dX5_keep_7 rfl ci_m1 ?_
    exact k_iret h r dX5_keep_8 (lf_i hf)
noncomputable def f_X5_on (x0 : Int32) (st : St) : Option (Int32 × St) :=
  ((f_X5_isPlace x0 st).bind (fun q1 => (if q1.1 = 0 then (some ((-1 : Int32), q1.2)) else (gd (inb x0 3) (if (q1.2.1 (24 + x0.toNatClampNeg) 2) = 0 then ((f_X5_found (1 : Int32) q1.2).bind (fun q7 => (some (q7.1, q7.2)))) else (gd (inb x0 3) ((f_X0_giveTo (24 + x0.toNatClampNeg) q1.2).bind (fun q6 => (some (q6.1 33 2, q6))))))))))
set_option maxHeartbeats 4000000 in
theorem c_X5_on {G : GG} (l : Launch) (x0 : Int32) (st : St)  (rr : Int32) (st' : St) (hf : f_X5_on x0 st = some (rr, st')) : MM l yX5_on cX5_on 2 (some .int) 7 (oC G) [.ref (al (oC G) 0), .int x0] st (some (.int rr)) st' := by
  refine mk_MM (by decide +kernel) (Nat.le_of_ble_eq_true rfl) (fun X h r => ?_)
  refine k_sub (lv' := [(0, .ref (al (oC G) 0)), (1, .int x0)]) [0, 1] rfl ?_
  unfold f_X5_on at hf
  refine k_iload_n (pc' := 1) h dX5_on_0 rfl rfl 1 rfl ?_
  obtain ⟨q1, hq1, hf⟩ := bd_s hf
  refine k_callS (As := [.int x0]) (rest := []) (rv := some (.int q1.1)) (st' := q1.2) (stk' := [.int q1.1]) (pc' := 4) h dX5_on_1 rfl ml_X5_187 wc_X5_isPlace ws_X5_isPlace ⟨Nat.le_of_ble_eq_true rfl, Nat.le_of_ble_eq_true rfl⟩ rfl rfl (Nat.le_of_ble_eq_true rfl) (fun l => c_X5_isPlace l x0 st  _ _ hq1) rfl ?_
  refine k_if_ne (tgt := 9) (pc' := 7) h dX5_on_4 rfl rfl (fun c2 => ?_) (fun c2 => ?_)
  · replace hf := if_f c2 hf
    refine k_aload_n (pc' := 10) h dX5_on_9 rfl rfl 0 rfl ?_
    refine k_get (v := .ref (al (oC G) 23)) (pc' := 13) h dX5_on_10 rfl bC_us fl_X5_35 rfl ?_
    refine k_iload_n (pc' := 14) h dX5_on_13 rfl rfl 1 rfl ?_
    have g3 := gd_1 hf
    replace hf := gd_2 hf
    refine k_aald (tt := .object "TheUsual$Kept") (pc' := 15) h dX5_on_14 rfl rC_plc rfl rfl g3 ?_
    refine k_get (v := .int (q1.2.1 (24 + x0.toNatClampNeg) 2)) (pc' := 18) h dX5_on_15 rfl (bC_ke (Nat.le_add_right 24 x0.toNatClampNeg) (Nat.add_lt_add_left (inb_lt g3) 24)) fl_X5_103 rfl ?_
    refine k_if_ne (tgt := 27) (pc' := 21) h dX5_on_18 rfl rfl (fun c4 => ?_) (fun c4 => ?_)
    · replace hf := if_f c4 hf
      refine k_aload_n (pc' := 28) h dX5_on_27 rfl rfl 0 rfl ?_
      refine k_get (v := .ref (al (oC G) 23)) (pc' := 31) h dX5_on_28 rfl bC_us fl_X5_35 rfl ?_
      refine k_iload_n (pc' := 32) h dX5_on_31 rfl rfl 1 rfl ?_
      have g5 := gd_1 hf
      replace hf := gd_2 hf
      refine k_aald (tt := .object "TheUsual$Kept") (pc' := 33) h dX5_on_32 rfl rC_plc rfl rfl g5 ?_
      refine k_aload_n (pc' := 34) h dX5_on_33 rfl rfl 0 rfl ?_
      refine k_get (v := .ref (al (oC G) 15)) (pc' := 37) h dX5_on_34 rfl bC_us fl_X5_29 rfl ?_
      obtain ⟨q6, hq6, hf⟩ := bd_s hf
      refine k_callV (As := [.ref (al (oC G) 15)]) (rest := []) (rv := none) (st' := q6) (stk' := []) (pc' := 40) h dX5_on_37 rfl ml_X5_194 wc_X0_giveTo wi_X0_giveTo ⟨Nat.le_of_ble_eq_true rfl, Nat.le_of_ble_eq_true rfl⟩ (bC_ke (Nat.le_add_right 24 x0.toNatClampNeg) (Nat.add_lt_add_left (inb_lt g5) 24)) rfl rfl rfl rfl (Nat.le_of_ble_eq_true rfl) (fun l => c_X0_giveTo l (24 + x0.toNatClampNeg) q1.2 (Nat.le_add_right 24 x0.toNatClampNeg) (Nat.add_lt_add_left (inb_lt g5) 24) _ hq6) rfl ?_
      refine k_aload_n (pc' := 41) h dX5_on_40 rfl rfl 0 rfl ?_
      refine k_get (v := .ref (al (oC G) 15)) (pc' := 44) h dX5_on_41 rfl bC_us fl_X5_29 rfl ?_
      refine k_get (v := .ref (al (oC G) 33)) (pc' := 47) h dX5_on_44 rfl bC_sh fl_X5_158 rfl ?_
      refine k_get (v := .int (q6.1 33 2)) (pc' := 50) h dX5_on_47 rfl (bC_tu (Nat.le_of_ble_eq_true rfl : 30 ≤ 33) (Nat.le_of_ble_eq_true rfl : 33 < 34)) fl_X5_162 rfl ?_
      exact k_iret h r dX5_on_50 (lf_i hf)
    · replace hf := if_t c4 hf
      refine k_aload_n (pc' := 22) h dX5_on_21 rfl rfl 0 rfl ?_
      refine k_iconst (pc' := 23) h dX5_on_22 rfl ci_1 ?_
      obtain ⟨q7, hq7, hf⟩ := bd_s hf
      refine k_callV (As := [.int (1 : Int32)]) (rest := []) (rv := some (.int q7.1)) (st' := q7.2) (stk' := [.int q7.1]) (pc' := 26) h dX5_on_23 rfl ml_X5_68 wc_X5_found wi_X5_found ⟨Nat.le_of_ble_eq_true rfl, Nat.le_of_ble_eq_true rfl⟩ bC_us rfl rfl rfl rfl (Nat.le_of_ble_eq_true rfl) (fun l => c_X5_found l (1 : Int32) q1.2  _ _ hq7) rfl ?_
      exact k_iret h r dX5_on_26 (lf_i hf)
  · replace hf := if_t c2 hf
    refine k_iconst (pc' := 8) h dX5_on_7 rfl ci_m1 ?_
    exact k_iret h r dX5_on_8 (lf_i hf)
noncomputable def f_X5_isSign (x0 : Int32) (st : St) : Option (Int32 × St) :=
  (if x0 = (-9 : Int32) then (some ((1 : Int32), st)) else (if x0 < 0 then (some ((0 : Int32), st)) else (if (4 : Int32) ≤ x0 then (some ((0 : Int32), st)) else (some ((1 : Int32), st)))))
set_option maxHeartbeats 4000000 in
theorem c_X5_isSign {G : GG} (l : Launch) (x0 : Int32) (st : St)  (rr : Int32) (st' : St) (hf : f_X5_isSign x0 st = some (rr, st')) : MM l yX5_isSign cX5_isSign 1 (some .boolean) 0 (oC G) [.int x0] st (some (.int rr)) st' := by
  refine mk_MM (by decide +kernel) (Nat.le_of_ble_eq_true rfl) (fun X h r => ?_)
  refine k_sub (lv' := [(0, .int x0)]) [0] rfl ?_
  unfold f_X5_isSign at hf
  refine k_iload_n (pc' := 1) h dX5_isSign_0 rfl rfl 0 rfl ?_
  refine k_bipush (pc' := 3) h dX5_isSign_1 rfl cb_m9 ?_
  refine k_icmp_eq (tgt := 15) (pc' := 6) h dX5_isSign_3 rfl rfl (fun c1 => ?_) (fun c1 => ?_)
  · replace hf := if_t c1 hf
    refine k_iconst (pc' := 16) h dX5_isSign_15 rfl ci_1 ?_
    refine k_goto (tgt := 20) h dX5_isSign_16 rfl ?_
    exact k_zret h r dX5_isSign_20 (by decide) (lf_i hf)
  · replace hf := if_f c1 hf
    refine k_iload_n (pc' := 7) h dX5_isSign_6 rfl rfl 0 rfl ?_
    refine k_if_lt (tgt := 19) (pc' := 10) h dX5_isSign_7 rfl rfl (fun c2 => ?_) (fun c2 => ?_)
    · replace hf := if_t c2 hf
      refine k_iconst (pc' := 20) h dX5_isSign_19 rfl ci_0 ?_
      exact k_zret h r dX5_isSign_20 (by decide) (lf_i hf)
    · replace hf := if_f c2 hf
      refine k_iload_n (pc' := 11) h dX5_isSign_10 rfl rfl 0 rfl ?_
      refine k_iconst (pc' := 12) h dX5_isSign_11 rfl ci_4 ?_
      refine k_icmp_ge (tgt := 19) (pc' := 15) h dX5_isSign_12 rfl rfl (fun c3 => ?_) (fun c3 => ?_)
      · replace hf := if_t c3 hf
        refine k_iconst (pc' := 20) h dX5_isSign_19 rfl ci_0 ?_
        exact k_zret h r dX5_isSign_20 (by decide) (lf_i hf)
      · replace hf := if_f c3 hf
        refine k_iconst (pc' := 16) h dX5_isSign_15 rfl ci_1 ?_
        refine k_goto (tgt := 20) h dX5_isSign_16 rfl ?_
        exact k_zret h r dX5_isSign_20 (by decide) (lf_i hf)
noncomputable def f_X5_who (x0 : Int32) (x1 : Int32) (st : St) : Option (Int32 × St) :=
  ((f_X5_isSign x0 st).bind (fun q1 => (if q1.1 = 0 then (some ((-1 : Int32), q1.2)) else ((f_X5_isSign x1 q1.2).bind (fun q3 => (if q3.1 = 0 then (some ((-1 : Int32), q3.2)) else ((f_X3_thoseWhoLook x0 x1 q3.2).bind (fun q5 => (some (q5.1, q5.2))))))))))
set_option maxHeartbeats 4000000 in
theorem c_X5_who {G : GG} (l : Launch) (x0 : Int32) (x1 : Int32) (st : St)  (rr : Int32) (st' : St) (hf : f_X5_who x0 x1 st = some (rr, st')) : MM l yX5_who cX5_who 3 (some .int) 2 (oC G) [.ref (al (oC G) 0), .int x0, .int x1] st (some (.int rr)) st' := by
  refine mk_MM (by decide +kernel) (Nat.le_of_ble_eq_true rfl) (fun X h r => ?_)
  refine k_sub (lv' := [(0, .ref (al (oC G) 0)), (1, .int x0), (2, .int x1)]) [0, 1, 2] rfl ?_
  unfold f_X5_who at hf
  refine k_iload_n (pc' := 1) h dX5_who_0 rfl rfl 1 rfl ?_
  obtain ⟨q1, hq1, hf⟩ := bd_s hf
  refine k_callS (As := [.int x0]) (rest := []) (rv := some (.int q1.1)) (st' := q1.2) (stk' := [.int q1.1]) (pc' := 4) h dX5_who_1 rfl ml_X5_197 wc_X5_isSign ws_X5_isSign ⟨Nat.le_of_ble_eq_true rfl, Nat.le_of_ble_eq_true rfl⟩ rfl rfl (Nat.le_of_ble_eq_true rfl) (fun l => c_X5_isSign l x0 st  _ _ hq1) rfl ?_
  refine k_if_eq (tgt := 14) (pc' := 7) h dX5_who_4 rfl rfl (fun c2 => ?_) (fun c2 => ?_)
  · replace hf := if_t c2 hf
    refine k_iconst (pc' := 15) h dX5_who_14 rfl ci_m1 ?_
    exact k_iret h r dX5_who_15 (lf_i hf)
  · replace hf := if_f c2 hf
    refine k_iload_n (pc' := 8) h dX5_who_7 rfl rfl 2 rfl ?_
    obtain ⟨q3, hq3, hf⟩ := bd_s hf
    refine k_callS (As := [.int x1]) (rest := []) (rv := some (.int q3.1)) (st' := q3.2) (stk' := [.int q3.1]) (pc' := 11) h dX5_who_8 rfl ml_X5_197 wc_X5_isSign ws_X5_isSign ⟨Nat.le_of_ble_eq_true rfl, Nat.le_of_ble_eq_true rfl⟩ rfl rfl (Nat.le_of_ble_eq_true rfl) (fun l => c_X5_isSign l x1 q1.2  _ _ hq3) rfl ?_
    refine k_if_ne (tgt := 16) (pc' := 14) h dX5_who_11 rfl rfl (fun c4 => ?_) (fun c4 => ?_)
    · replace hf := if_f c4 hf
      refine k_aload_n (pc' := 17) h dX5_who_16 rfl rfl 0 rfl ?_
      refine k_get (v := .ref (al (oC G) 15)) (pc' := 20) h dX5_who_17 rfl bC_us fl_X5_29 rfl ?_
      refine k_iload_n (pc' := 21) h dX5_who_20 rfl rfl 1 rfl ?_
      refine k_iload_n (pc' := 22) h dX5_who_21 rfl rfl 2 rfl ?_
      obtain ⟨q5, hq5, hf⟩ := bd_s hf
      refine k_callV (As := [.int x0, .int x1]) (rest := []) (rv := some (.int q5.1)) (st' := q5.2) (stk' := [.int q5.1]) (pc' := 25) h dX5_who_22 rfl ml_X5_144 wc_X3_thoseWhoLook wi_X3_thoseWhoLook ⟨Nat.le_of_ble_eq_true rfl, Nat.le_of_ble_eq_true rfl⟩ bC_sh rfl rfl rfl rfl (Nat.le_of_ble_eq_true rfl) (fun l => c_X3_thoseWhoLook l x0 x1 q3.2  _ _ hq5) rfl ?_
      exact k_iret h r dX5_who_25 (lf_i hf)
    · replace hf := if_t c4 hf
      refine k_iconst (pc' := 15) h dX5_who_14 rfl ci_m1 ?_
      exact k_iret h r dX5_who_15 (lf_i hf)
noncomputable def f_X5_areTwo (x0 : Int32) (x1 : Int32) (st : St) : Option (Int32 × St) :=
  ((f_X5_isRegular x0 st).bind (fun q1 => (if q1.1 = 0 then (some ((0 : Int32), q1.2)) else ((f_X5_isRegular x1 q1.2).bind (fun q3 => (if q3.1 = 0 then (some ((0 : Int32), q3.2)) else (if x0 = x1 then (some ((0 : Int32), q3.2)) else (some ((1 : Int32), q3.2)))))))))
set_option maxHeartbeats 4000000 in
theorem c_X5_areTwo {G : GG} (l : Launch) (x0 : Int32) (x1 : Int32) (st : St)  (rr : Int32) (st' : St) (hf : f_X5_areTwo x0 x1 st = some (rr, st')) : MM l yX5_areTwo cX5_areTwo 3 (some .boolean) 1 (oC G) [.ref (al (oC G) 0), .int x0, .int x1] st (some (.int rr)) st' := by
  refine mk_MM (by decide +kernel) (Nat.le_of_ble_eq_true rfl) (fun X h r => ?_)
  refine k_sub (lv' := [(0, .ref (al (oC G) 0)), (1, .int x0), (2, .int x1)]) [0, 1, 2] rfl ?_
  unfold f_X5_areTwo at hf
  refine k_aload_n (pc' := 1) h dX5_areTwo_0 rfl rfl 0 rfl ?_
  refine k_iload_n (pc' := 2) h dX5_areTwo_1 rfl rfl 1 rfl ?_
  obtain ⟨q1, hq1, hf⟩ := bd_s hf
  refine k_callV (As := [.int x0]) (rest := []) (rv := some (.int q1.1)) (st' := q1.2) (stk' := [.int q1.1]) (pc' := 5) h dX5_areTwo_2 rfl ml_X5_110 wc_X5_isRegular wi_X5_isRegular ⟨Nat.le_of_ble_eq_true rfl, Nat.le_of_ble_eq_true rfl⟩ bC_us rfl rfl rfl rfl (Nat.le_of_ble_eq_true rfl) (fun l => c_X5_isRegular l x0 st  _ _ hq1) rfl ?_
  refine k_if_eq (tgt := 25) (pc' := 8) h dX5_areTwo_5 rfl rfl (fun c2 => ?_) (fun c2 => ?_)
  · replace hf := if_t c2 hf
    refine k_iconst (pc' := 26) h dX5_areTwo_25 rfl ci_0 ?_
    exact k_zret h r dX5_areTwo_26 (by decide) (lf_i hf)
  · replace hf := if_f c2 hf
    refine k_aload_n (pc' := 9) h dX5_areTwo_8 rfl rfl 0 rfl ?_
    refine k_iload_n (pc' := 10) h dX5_areTwo_9 rfl rfl 2 rfl ?_
    obtain ⟨q3, hq3, hf⟩ := bd_s hf
    refine k_callV (As := [.int x1]) (rest := []) (rv := some (.int q3.1)) (st' := q3.2) (stk' := [.int q3.1]) (pc' := 13) h dX5_areTwo_10 rfl ml_X5_110 wc_X5_isRegular wi_X5_isRegular ⟨Nat.le_of_ble_eq_true rfl, Nat.le_of_ble_eq_true rfl⟩ bC_us rfl rfl rfl rfl (Nat.le_of_ble_eq_true rfl) (fun l => c_X5_isRegular l x1 q1.2  _ _ hq3) rfl ?_
    refine k_if_eq (tgt := 25) (pc' := 16) h dX5_areTwo_13 rfl rfl (fun c4 => ?_) (fun c4 => ?_)
    · replace hf := if_t c4 hf
      refine k_iconst (pc' := 26) h dX5_areTwo_25 rfl ci_0 ?_
      exact k_zret h r dX5_areTwo_26 (by decide) (lf_i hf)
    · replace hf := if_f c4 hf
      refine k_iload_n (pc' := 17) h dX5_areTwo_16 rfl rfl 1 rfl ?_
      refine k_iload_n (pc' := 18) h dX5_areTwo_17 rfl rfl 2 rfl ?_
      refine k_icmp_eq (tgt := 25) (pc' := 21) h dX5_areTwo_18 rfl rfl (fun c5 => ?_) (fun c5 => ?_)
      · replace hf := if_t c5 hf
        refine k_iconst (pc' := 26) h dX5_areTwo_25 rfl ci_0 ?_
        exact k_zret h r dX5_areTwo_26 (by decide) (lf_i hf)
      · replace hf := if_f c5 hf
        refine k_iconst (pc' := 22) h dX5_areTwo_21 rfl ci_1 ?_
        refine k_goto (tgt := 26) h dX5_areTwo_22 rfl ?_
        exact k_zret h r dX5_areTwo_26 (by decide) (lf_i hf)
noncomputable def f_X5_parts (x0 : Int32) (x1 : Int32) (st : St) : Option (Int32 × St) :=
  ((f_X5_areTwo x0 x1 st).bind (fun q1 => (if q1.1 = 0 then (some ((-1 : Int32), q1.2)) else (gd (inb x0 6) (gd (inb x1 6) (if (q1.2.1 (17 + x0.toNatClampNeg) 1) = (q1.2.1 (17 + x1.toNatClampNeg) 1) then (gd (inb x0 6) (gd (inb x1 6) (if (q1.2.1 (17 + x0.toNatClampNeg) 2) = (q1.2.1 (17 + x1.toNatClampNeg) 2) then (some ((0 : Int32) + (0 : Int32), q1.2)) else (some ((0 : Int32) + (2 : Int32), q1.2))))) else (gd (inb x0 6) (gd (inb x1 6) (if (q1.2.1 (17 + x0.toNatClampNeg) 2) = (q1.2.1 (17 + x1.toNatClampNeg) 2) then (some ((1 : Int32) + (0 : Int32), q1.2)) else (some ((1 : Int32) + (2 : Int32), q1.2)))))))))))
set_option maxHeartbeats 4000000 in
theorem c_X5_parts {G : GG} (l : Launch) (x0 : Int32) (x1 : Int32) (st : St)  (rr : Int32) (st' : St) (hf : f_X5_parts x0 x1 st = some (rr, st')) : MM l yX5_parts cX5_parts 5 (some .int) 2 (oC G) [.ref (al (oC G) 0), .int x0, .int x1] st (some (.int rr)) st' := by
  refine mk_MM (by decide +kernel) (Nat.le_of_ble_eq_true rfl) (fun X h r => ?_)
  refine k_sub (lv' := [(0, .ref (al (oC G) 0)), (1, .int x0), (2, .int x1)]) [0, 1, 2] rfl ?_
  unfold f_X5_parts at hf
  refine k_aload_n (pc' := 1) h dX5_parts_0 rfl rfl 0 rfl ?_
  refine k_iload_n (pc' := 2) h dX5_parts_1 rfl rfl 1 rfl ?_
  refine k_iload_n (pc' := 3) h dX5_parts_2 rfl rfl 2 rfl ?_
  obtain ⟨q1, hq1, hf⟩ := bd_s hf
  refine k_callV (As := [.int x0, .int x1]) (rest := []) (rv := some (.int q1.1)) (st' := q1.2) (stk' := [.int q1.1]) (pc' := 6) h dX5_parts_3 rfl ml_X5_200 wc_X5_areTwo wi_X5_areTwo ⟨Nat.le_of_ble_eq_true rfl, Nat.le_of_ble_eq_true rfl⟩ bC_us rfl rfl rfl rfl (Nat.le_of_ble_eq_true rfl) (fun l => c_X5_areTwo l x0 x1 st  _ _ hq1) rfl ?_
  refine k_if_ne (tgt := 11) (pc' := 9) h dX5_parts_6 rfl rfl (fun c2 => ?_) (fun c2 => ?_)
  · replace hf := if_f c2 hf
    refine k_aload_n (pc' := 12) h dX5_parts_11 rfl rfl 0 rfl ?_
    refine k_get (v := .ref (al (oC G) 15)) (pc' := 15) h dX5_parts_12 rfl bC_us fl_X5_29 rfl ?_
    refine k_get (v := .ref (al (oC G) 16)) (pc' := 18) h dX5_parts_15 rfl bC_sh fl_X5_116 rfl ?_
    refine k_iload_n (pc' := 19) h dX5_parts_18 rfl rfl 1 rfl ?_
    have g3 := gd_1 hf
    replace hf := gd_2 hf
    refine k_aald (tt := .object "TheUsual$Regular") (pc' := 20) h dX5_parts_19 rfl rC_regs rfl rfl g3 ?_
    refine k_get (v := .int (q1.2.1 (17 + x0.toNatClampNeg) 1)) (pc' := 23) h dX5_parts_20 rfl (bC_re (Nat.le_add_right 17 x0.toNatClampNeg) (Nat.add_lt_add_left (inb_lt g3) 17)) fl_X5_138 rfl ?_
    refine k_aload_n (pc' := 24) h dX5_parts_23 rfl rfl 0 rfl ?_
    refine k_get (v := .ref (al (oC G) 15)) (pc' := 27) h dX5_parts_24 rfl bC_us fl_X5_29 rfl ?_
    refine k_get (v := .ref (al (oC G) 16)) (pc' := 30) h dX5_parts_27 rfl bC_sh fl_X5_116 rfl ?_
    refine k_iload_n (pc' := 31) h dX5_parts_30 rfl rfl 2 rfl ?_
    have g4 := gd_1 hf
    replace hf := gd_2 hf
    refine k_aald (tt := .object "TheUsual$Regular") (pc' := 32) h dX5_parts_31 rfl rC_regs rfl rfl g4 ?_
    refine k_get (v := .int (q1.2.1 (17 + x1.toNatClampNeg) 1)) (pc' := 35) h dX5_parts_32 rfl (bC_re (Nat.le_add_right 17 x1.toNatClampNeg) (Nat.add_lt_add_left (inb_lt g4) 17)) fl_X5_138 rfl ?_
    refine k_icmp_eq (tgt := 42) (pc' := 38) h dX5_parts_35 rfl rfl (fun c5 => ?_) (fun c5 => ?_)
    · replace hf := if_t c5 hf
      refine k_iconst (pc' := 43) h dX5_parts_42 rfl ci_0 ?_
      refine k_istore_n (lv' := [(0, .ref (al (oC G) 0)), (1, .int x0), (2, .int x1), (3, .int (0 : Int32))]) (pc' := 44) h dX5_parts_43 rfl rfl (Nat.le_of_ble_eq_true rfl) [1, 2, 3, 0] rfl ?_
      refine k_aload_n (pc' := 45) h dX5_parts_44 rfl rfl 0 rfl ?_
      refine k_get (v := .ref (al (oC G) 15)) (pc' := 48) h dX5_parts_45 rfl bC_us fl_X5_29 rfl ?_
      refine k_get (v := .ref (al (oC G) 16)) (pc' := 51) h dX5_parts_48 rfl bC_sh fl_X5_116 rfl ?_
      refine k_iload_n (pc' := 52) h dX5_parts_51 rfl rfl 1 rfl ?_
      have g6 := gd_1 hf
      replace hf := gd_2 hf
      refine k_aald (tt := .object "TheUsual$Regular") (pc' := 53) h dX5_parts_52 rfl rC_regs rfl rfl g6 ?_
      refine k_get (v := .int (q1.2.1 (17 + x0.toNatClampNeg) 2)) (pc' := 56) h dX5_parts_53 rfl (bC_re (Nat.le_add_right 17 x0.toNatClampNeg) (Nat.add_lt_add_left (inb_lt g6) 17)) fl_X5_141 rfl ?_
      refine k_aload_n (pc' := 57) h dX5_parts_56 rfl rfl 0 rfl ?_
      refine k_get (v := .ref (al (oC G) 15)) (pc' := 60) h dX5_parts_57 rfl bC_us fl_X5_29 rfl ?_
      refine k_get (v := .ref (al (oC G) 16)) (pc' := 63) h dX5_parts_60 rfl bC_sh fl_X5_116 rfl ?_
      refine k_iload_n (pc' := 64) h dX5_parts_63 rfl rfl 2 rfl ?_
      have g7 := gd_1 hf
      replace hf := gd_2 hf
      refine k_aald (tt := .object "TheUsual$Regular") (pc' := 65) h dX5_parts_64 rfl rC_regs rfl rfl g7 ?_
      refine k_get (v := .int (q1.2.1 (17 + x1.toNatClampNeg) 2)) (pc' := 68) h dX5_parts_65 rfl (bC_re (Nat.le_add_right 17 x1.toNatClampNeg) (Nat.add_lt_add_left (inb_lt g7) 17)) fl_X5_141 rfl ?_
      refine k_icmp_eq (tgt := 75) (pc' := 71) h dX5_parts_68 rfl rfl (fun c8 => ?_) (fun c8 => ?_)
      · replace hf := if_t c8 hf
        refine k_iconst (pc' := 76) h dX5_parts_75 rfl ci_0 ?_
        refine k_istore (lv' := [(0, .ref (al (oC G) 0)), (1, .int x0), (2, .int x1), (3, .int (0 : Int32)), (4, .int (0 : Int32))]) (pc' := 78) h dX5_parts_76 rfl (Nat.le_of_ble_eq_true rfl) [1, 2, 3, 4, 0] rfl ?_
        refine k_iload_n (pc' := 79) h dX5_parts_78 rfl rfl 3 rfl ?_
        refine k_iload (pc' := 81) h dX5_parts_79 rfl 4 rfl ?_
        refine k_iadd (pc' := 82) h dX5_parts_81 rfl ?_
        exact k_iret h r dX5_parts_82 (lf_i hf)
      · replace hf := if_f c8 hf
        refine k_iconst (pc' := 72) h dX5_parts_71 rfl ci_2 ?_
        refine k_goto (tgt := 76) h dX5_parts_72 rfl ?_
        refine k_istore (lv' := [(0, .ref (al (oC G) 0)), (1, .int x0), (2, .int x1), (3, .int (0 : Int32)), (4, .int (2 : Int32))]) (pc' := 78) h dX5_parts_76 rfl (Nat.le_of_ble_eq_true rfl) [1, 2, 3, 4, 0] rfl ?_
        refine k_iload_n (pc' := 79) h dX5_parts_78 rfl rfl 3 rfl ?_
        refine k_iload (pc' := 81) h dX5_parts_79 rfl 4 rfl ?_
        refine k_iadd (pc' := 82) h dX5_parts_81 rfl ?_
        exact k_iret h r dX5_parts_82 (lf_i hf)
    · replace hf := if_f c5 hf
      refine k_iconst (pc' := 39) h dX5_parts_38 rfl ci_1 ?_
      refine k_goto (tgt := 43) h dX5_parts_39 rfl ?_
      refine k_istore_n (lv' := [(0, .ref (al (oC G) 0)), (1, .int x0), (2, .int x1), (3, .int (1 : Int32))]) (pc' := 44) h dX5_parts_43 rfl rfl (Nat.le_of_ble_eq_true rfl) [1, 2, 3, 0] rfl ?_
      refine k_aload_n (pc' := 45) h dX5_parts_44 rfl rfl 0 rfl ?_
      refine k_get (v := .ref (al (oC G) 15)) (pc' := 48) h dX5_parts_45 rfl bC_us fl_X5_29 rfl ?_
      refine k_get (v := .ref (al (oC G) 16)) (pc' := 51) h dX5_parts_48 rfl bC_sh fl_X5_116 rfl ?_
      refine k_iload_n (pc' := 52) h dX5_parts_51 rfl rfl 1 rfl ?_
      have g9 := gd_1 hf
      replace hf := gd_2 hf
      refine k_aald (tt := .object "TheUsual$Regular") (pc' := 53) h dX5_parts_52 rfl rC_regs rfl rfl g9 ?_
      refine k_get (v := .int (q1.2.1 (17 + x0.toNatClampNeg) 2)) (pc' := 56) h dX5_parts_53 rfl (bC_re (Nat.le_add_right 17 x0.toNatClampNeg) (Nat.add_lt_add_left (inb_lt g9) 17)) fl_X5_141 rfl ?_
      refine k_aload_n (pc' := 57) h dX5_parts_56 rfl rfl 0 rfl ?_
      refine k_get (v := .ref (al (oC G) 15)) (pc' := 60) h dX5_parts_57 rfl bC_us fl_X5_29 rfl ?_
      refine k_get (v := .ref (al (oC G) 16)) (pc' := 63) h dX5_parts_60 rfl bC_sh fl_X5_116 rfl ?_
      refine k_iload_n (pc' := 64) h dX5_parts_63 rfl rfl 2 rfl ?_
      have g10 := gd_1 hf
      replace hf := gd_2 hf
      refine k_aald (tt := .object "TheUsual$Regular") (pc' := 65) h dX5_parts_64 rfl rC_regs rfl rfl g10 ?_
      refine k_get (v := .int (q1.2.1 (17 + x1.toNatClampNeg) 2)) (pc' := 68) h dX5_parts_65 rfl (bC_re (Nat.le_add_right 17 x1.toNatClampNeg) (Nat.add_lt_add_left (inb_lt g10) 17)) fl_X5_141 rfl ?_
      refine k_icmp_eq (tgt := 75) (pc' := 71) h dX5_parts_68 rfl rfl (fun c11 => ?_) (fun c11 => ?_)
      · replace hf := if_t c11 hf
        refine k_iconst (pc' := 76) h dX5_parts_75 rfl ci_0 ?_
        refine k_istore (lv' := [(0, .ref (al (oC G) 0)), (1, .int x0), (2, .int x1), (3, .int (1 : Int32)), (4, .int (0 : Int32))]) (pc' := 78) h dX5_parts_76 rfl (Nat.le_of_ble_eq_true rfl) [1, 2, 3, 4, 0] rfl ?_
        refine k_iload_n (pc' := 79) h dX5_parts_78 rfl rfl 3 rfl ?_
        refine k_iload (pc' := 81) h dX5_parts_79 rfl 4 rfl ?_
        refine k_iadd (pc' := 82) h dX5_parts_81 rfl ?_
        exact k_iret h r dX5_parts_82 (lf_i hf)
      · replace hf := if_f c11 hf
        refine k_iconst (pc' := 72) h dX5_parts_71 rfl ci_2 ?_
        refine k_goto (tgt := 76) h dX5_parts_72 rfl ?_
        refine k_istore (lv' := [(0, .ref (al (oC G) 0)), (1, .int x0), (2, .int x1), (3, .int (1 : Int32)), (4, .int (2 : Int32))]) (pc' := 78) h dX5_parts_76 rfl (Nat.le_of_ble_eq_true rfl) [1, 2, 3, 4, 0] rfl ?_
        refine k_iload_n (pc' := 79) h dX5_parts_78 rfl rfl 3 rfl ?_
        refine k_iload (pc' := 81) h dX5_parts_79 rfl 4 rfl ?_
        refine k_iadd (pc' := 82) h dX5_parts_81 rfl ?_
        exact k_iret h r dX5_parts_82 (lf_i hf)
  · replace hf := if_t c2 hf
    refine k_iconst (pc' := 10) h dX5_parts_9 rfl ci_m1 ?_
    exact k_iret h r dX5_parts_10 (lf_i hf)
noncomputable def f_X5_isMorning (x0 : Int32) (st : St) : Option (Int32 × St) :=
  (if x0 < 0 then (some ((0 : Int32), st)) else (if (999 : Int32) < x0 then (some ((0 : Int32), st)) else (some ((1 : Int32), st))))
set_option maxHeartbeats 4000000 in
theorem c_X5_isMorning {G : GG} (l : Launch) (x0 : Int32) (st : St)  (rr : Int32) (st' : St) (hf : f_X5_isMorning x0 st = some (rr, st')) : MM l yX5_isMorning cX5_isMorning 1 (some .boolean) 0 (oC G) [.int x0] st (some (.int rr)) st' := by
  refine mk_MM (by decide +kernel) (Nat.le_of_ble_eq_true rfl) (fun X h r => ?_)
  refine k_sub (lv' := [(0, .int x0)]) [0] rfl ?_
  unfold f_X5_isMorning at hf
  refine k_iload_n (pc' := 1) h dX5_isMorning_0 rfl rfl 0 rfl ?_
  refine k_if_lt (tgt := 15) (pc' := 4) h dX5_isMorning_1 rfl rfl (fun c1 => ?_) (fun c1 => ?_)
  · replace hf := if_t c1 hf
    refine k_iconst (pc' := 16) h dX5_isMorning_15 rfl ci_0 ?_
    exact k_zret h r dX5_isMorning_16 (by decide) (lf_i hf)
  · replace hf := if_f c1 hf
    refine k_iload_n (pc' := 5) h dX5_isMorning_4 rfl rfl 0 rfl ?_
    refine k_sipush (pc' := 8) h dX5_isMorning_5 rfl cs_999 ?_
    refine k_icmp_gt (tgt := 15) (pc' := 11) h dX5_isMorning_8 rfl rfl (fun c2 => ?_) (fun c2 => ?_)
    · replace hf := if_t c2 hf
      refine k_iconst (pc' := 16) h dX5_isMorning_15 rfl ci_0 ?_
      exact k_zret h r dX5_isMorning_16 (by decide) (lf_i hf)
    · replace hf := if_f c2 hf
      refine k_iconst (pc' := 12) h dX5_isMorning_11 rfl ci_1 ?_
      refine k_goto (tgt := 16) h dX5_isMorning_12 rfl ?_
      exact k_zret h r dX5_isMorning_16 (by decide) (lf_i hf)
noncomputable def f_X5_wants (x0 : Int32) (x1 : Int32) (st : St) : Option (Int32 × St) :=
  ((f_X5_isRegular x0 st).bind (fun q1 => (if q1.1 = 0 then (some ((-1 : Int32), q1.2)) else ((f_X5_isMorning x1 q1.2).bind (fun q3 => (if q3.1 = 0 then (some ((-1 : Int32), q3.2)) else (gd (inb x0 6) ((f_X2_wantOn (17 + x0.toNatClampNeg) x1 q3.2).bind (fun q6 => (some (q6.1, q6.2)))))))))))
set_option maxHeartbeats 4000000 in
theorem c_X5_wants {G : GG} (l : Launch) (x0 : Int32) (x1 : Int32) (st : St)  (rr : Int32) (st' : St) (hf : f_X5_wants x0 x1 st = some (rr, st')) : MM l yX5_wants cX5_wants 3 (some .int) 2 (oC G) [.ref (al (oC G) 0), .int x0, .int x1] st (some (.int rr)) st' := by
  refine mk_MM (by decide +kernel) (Nat.le_of_ble_eq_true rfl) (fun X h r => ?_)
  refine k_sub (lv' := [(0, .ref (al (oC G) 0)), (1, .int x0), (2, .int x1)]) [0, 1, 2] rfl ?_
  unfold f_X5_wants at hf
  refine k_aload_n (pc' := 1) h dX5_wants_0 rfl rfl 0 rfl ?_
  refine k_iload_n (pc' := 2) h dX5_wants_1 rfl rfl 1 rfl ?_
  obtain ⟨q1, hq1, hf⟩ := bd_s hf
  refine k_callV (As := [.int x0]) (rest := []) (rv := some (.int q1.1)) (st' := q1.2) (stk' := [.int q1.1]) (pc' := 5) h dX5_wants_2 rfl ml_X5_110 wc_X5_isRegular wi_X5_isRegular ⟨Nat.le_of_ble_eq_true rfl, Nat.le_of_ble_eq_true rfl⟩ bC_us rfl rfl rfl rfl (Nat.le_of_ble_eq_true rfl) (fun l => c_X5_isRegular l x0 st  _ _ hq1) rfl ?_
  refine k_if_eq (tgt := 15) (pc' := 8) h dX5_wants_5 rfl rfl (fun c2 => ?_) (fun c2 => ?_)
  · replace hf := if_t c2 hf
    refine k_iconst (pc' := 16) h dX5_wants_15 rfl ci_m1 ?_
    exact k_iret h r dX5_wants_16 (lf_i hf)
  · replace hf := if_f c2 hf
    refine k_iload_n (pc' := 9) h dX5_wants_8 rfl rfl 2 rfl ?_
    obtain ⟨q3, hq3, hf⟩ := bd_s hf
    refine k_callS (As := [.int x1]) (rest := []) (rv := some (.int q3.1)) (st' := q3.2) (stk' := [.int q3.1]) (pc' := 12) h dX5_wants_9 rfl ml_X5_204 wc_X5_isMorning ws_X5_isMorning ⟨Nat.le_of_ble_eq_true rfl, Nat.le_of_ble_eq_true rfl⟩ rfl rfl (Nat.le_of_ble_eq_true rfl) (fun l => c_X5_isMorning l x1 q1.2  _ _ hq3) rfl ?_
    refine k_if_ne (tgt := 17) (pc' := 15) h dX5_wants_12 rfl rfl (fun c4 => ?_) (fun c4 => ?_)
    · replace hf := if_f c4 hf
      refine k_aload_n (pc' := 18) h dX5_wants_17 rfl rfl 0 rfl ?_
      refine k_get (v := .ref (al (oC G) 15)) (pc' := 21) h dX5_wants_18 rfl bC_us fl_X5_29 rfl ?_
      refine k_get (v := .ref (al (oC G) 16)) (pc' := 24) h dX5_wants_21 rfl bC_sh fl_X5_116 rfl ?_
      refine k_iload_n (pc' := 25) h dX5_wants_24 rfl rfl 1 rfl ?_
      have g5 := gd_1 hf
      replace hf := gd_2 hf
      refine k_aald (tt := .object "TheUsual$Regular") (pc' := 26) h dX5_wants_25 rfl rC_regs rfl rfl g5 ?_
      refine k_iload_n (pc' := 27) h dX5_wants_26 rfl rfl 2 rfl ?_
      obtain ⟨q6, hq6, hf⟩ := bd_s hf
      refine k_callV (As := [.int x1]) (rest := []) (rv := some (.int q6.1)) (st' := q6.2) (stk' := [.int q6.1]) (pc' := 30) h dX5_wants_27 rfl ml_X5_207 wc_X2_wantOn wi_X2_wantOn ⟨Nat.le_of_ble_eq_true rfl, Nat.le_of_ble_eq_true rfl⟩ (bC_re (Nat.le_add_right 17 x0.toNatClampNeg) (Nat.add_lt_add_left (inb_lt g5) 17)) rfl rfl rfl rfl (Nat.le_of_ble_eq_true rfl) (fun l => c_X2_wantOn l (17 + x0.toNatClampNeg) x1 q3.2 (Nat.le_add_right 17 x0.toNatClampNeg) (Nat.add_lt_add_left (inb_lt g5) 17) _ _ hq6) rfl ?_
      exact k_iret h r dX5_wants_30 (lf_i hf)
    · replace hf := if_t c4 hf
      refine k_iconst (pc' := 16) h dX5_wants_15 rfl ci_m1 ?_
      exact k_iret h r dX5_wants_16 (lf_i hf)
noncomputable def l_X5_commonDivisor_9 (p0 : Int64) (p2 : Int64) (v4 : Int64) (v6 : Int64) (v8 : Int32) (st : St) : Option ((Int64 × Int64 × Int32 × St) ⊕ (Int64 × Int64 × Int32 × St)) :=
  (if (200 : Int32) ≤ v8 then (some (.inr (v4, v6, v8, st))) else (if (lg_cmp v6 (0 : Int64)) = 0 then (some (.inr (v4, v6, v8, st))) else (gd (nzl v6) (lw (v4 - v4 / v6 * v6) (fun y4 => (some (.inl (v6, y4, v8 + (1 : Int32), st))))))))
set_option maxHeartbeats 4000000 in
theorem w_X5_commonDivisor_9 {G : GG} {X : Cx} (h : Ok X (oC G) cX5_commonDivisor RX5 11 (RM 0))  (p0 : Int64) (p2 : Int64)  (n : Nat) (v4 : Int64) (v6 : Int64) (v8 : Int32) (st : St) (q : Int64 × Int64 × Int32 × St) (hq : iter (fun v : Int64 × Int64 × Int32 × St => l_X5_commonDivisor_9 p0 p2 v.1 v.2.1 v.2.2.1 v.2.2.2) n (v4, v6, v8, st) = some q) (kx : Wk X (oC G) 11 q.2.2.2 45 [(0, .long p0), (2, .long p2), (4, .long q.1), (6, .long q.2.1), (8, .int q.2.2.1)] []) : Wk X (oC G) 11 st 9 [(0, .long p0), (2, .long p2), (4, .long v4), (6, .long v6), (8, .int v8)] [] := by
  refine iter_rule (hd := (fun v : Int64 × Int64 × Int32 × St => Wk X (oC G) 11 v.2.2.2 9 [(0, .long p0), (2, .long p2), (4, .long v.1), (6, .long v.2.1), (8, .int v.2.2.1)] [])) (ex := (fun v : Int64 × Int64 × Int32 × St => Wk X (oC G) 11 v.2.2.2 45 [(0, .long p0), (2, .long p2), (4, .long v.1), (6, .long v.2.1), (8, .int v.2.2.1)] [])) ?_ n (v4, v6, v8, st) q hq kx
  rintro ⟨v4, v6, v8, st⟩ oo hbv K
  show Wk X (oC G) 11 st 9 [(0, .long p0), (2, .long p2), (4, .long v4), (6, .long v6), (8, .int v8)] []
  have hf : l_X5_commonDivisor_9 p0 p2 v4 v6 v8 st = some oo := hbv
  unfold l_X5_commonDivisor_9 at hf
  refine k_iload (pc' := 11) h dX5_commonDivisor_9 rfl 4 rfl ?_
  refine k_sipush (pc' := 14) h dX5_commonDivisor_11 rfl cs_200 ?_
  refine k_icmp_ge (tgt := 45) (pc' := 17) h dX5_commonDivisor_14 rfl rfl (fun c1 => ?_) (fun c1 => ?_)
  · replace hf := if_t c1 hf
    refine k_sub (lv' := [(0, .long p0), (2, .long p2), (4, .long v4), (6, .long v6), (8, .int v8)]) [0, 1, 2, 3, 4] rfl ?_
    exact lp_o hf K
  · replace hf := if_f c1 hf
    refine k_lload (pc' := 19) h dX5_commonDivisor_17 rfl 3 rfl ?_
    refine k_lconst (pc' := 20) h dX5_commonDivisor_19 rfl cl_0 ?_
    refine k_lcmp (pc' := 21) h dX5_commonDivisor_20 rfl ?_
    refine k_if_eq (tgt := 45) (pc' := 24) h dX5_commonDivisor_21 rfl rfl (fun c2 => ?_) (fun c2 => ?_)
    · replace hf := if_t c2 hf
      refine k_sub (lv' := [(0, .long p0), (2, .long p2), (4, .long v4), (6, .long v6), (8, .int v8)]) [0, 1, 2, 3, 4] rfl ?_
      exact lp_o hf K
    · replace hf := if_f c2 hf
      refine k_lload (pc' := 26) h dX5_commonDivisor_24 rfl 2 rfl ?_
      refine k_lload (pc' := 28) h dX5_commonDivisor_26 rfl 3 rfl ?_
      have g3 := gd_1 hf
      replace hf := gd_2 hf
      refine k_lrem (pc' := 29) h dX5_commonDivisor_28 rfl (nzl_n g3) ?_
      obtain ⟨y4, hy4, hf⟩ := lw_s hf
      refine k_eql hy4 ?_
      refine k_lstore (lv' := [(0, .long p0), (2, .long p2), (4, .long v4), (6, .long v6), (8, .int v8), (9, .long y4)]) (pc' := 31) h dX5_commonDivisor_29 rfl (Nat.le_of_ble_eq_true rfl) [1, 2, 3, 4, 5, 0] rfl ?_
      refine k_lload (pc' := 33) h dX5_commonDivisor_31 rfl 3 rfl ?_
      refine k_lstore (lv' := [(0, .long p0), (2, .long p2), (4, .long v6), (6, .long v6), (8, .int v8), (9, .long y4)]) (pc' := 35) h dX5_commonDivisor_33 rfl (Nat.le_of_ble_eq_true rfl) [1, 2, 0, 3, 4, 5] rfl ?_
      refine k_lload (pc' := 37) h dX5_commonDivisor_35 rfl 5 rfl ?_
      refine k_lstore (lv' := [(0, .long p0), (2, .long p2), (4, .long v6), (6, .long y4), (8, .int v8), (9, .long y4)]) (pc' := 39) h dX5_commonDivisor_37 rfl (Nat.le_of_ble_eq_true rfl) [1, 2, 3, 0, 4, 5] rfl ?_
      refine k_iinc (lv' := [(0, .long p0), (2, .long p2), (4, .long v6), (6, .long y4), (8, .int (v8 + (1 : Int32))), (9, .long y4)]) (pc' := 42) h dX5_commonDivisor_39 rfl 4 rfl (congrArg (fun z => v8 + z) ci_1) (Nat.le_of_ble_eq_true rfl) [1, 2, 3, 4, 0, 5] rfl ?_
      refine k_goto (tgt := 9) h dX5_commonDivisor_42 rfl ?_
      refine k_sub (lv' := [(0, .long p0), (2, .long p2), (4, .long v6), (6, .long y4), (8, .int (v8 + (1 : Int32)))]) [0, 1, 2, 3, 4] rfl ?_
      exact lp_o hf K
noncomputable def f_X5_commonDivisor (x0 : Int64) (x1 : Int64) (st : St) : Option (Int64 × St) :=
  ((iter (fun v : Int64 × Int64 × Int32 × St => l_X5_commonDivisor_9 x0 x1 v.1 v.2.1 v.2.2.1 v.2.2.2) fuel (x0, x1, (0 : Int32), st)).bind (fun q5 => (some (q5.1, q5.2.2.2))))
set_option maxHeartbeats 4000000 in
theorem c_X5_commonDivisor {G : GG} (l : Launch) (x0 : Int64) (x1 : Int64) (st : St)  (rr : Int64) (st' : St) (hf : f_X5_commonDivisor x0 x1 st = some (rr, st')) : MM l yX5_commonDivisor cX5_commonDivisor 11 (some .long) 0 (oC G) [.long x0, .long x1] st (some (.long rr)) st' := by
  refine mk_MM (by decide +kernel) (Nat.le_of_ble_eq_true rfl) (fun X h r => ?_)
  refine k_sub (lv' := [(0, .long x0), (2, .long x1)]) [0, 1] rfl ?_
  unfold f_X5_commonDivisor at hf
  refine k_lload_n (pc' := 1) h dX5_commonDivisor_0 rfl rfl 0 rfl ?_
  refine k_lstore (lv' := [(0, .long x0), (2, .long x1), (4, .long x0)]) (pc' := 3) h dX5_commonDivisor_1 rfl (Nat.le_of_ble_eq_true rfl) [1, 2, 0] rfl ?_
  refine k_lload_n (pc' := 4) h dX5_commonDivisor_3 rfl rfl 1 rfl ?_
  refine k_lstore (lv' := [(0, .long x0), (2, .long x1), (4, .long x0), (6, .long x1)]) (pc' := 6) h dX5_commonDivisor_4 rfl (Nat.le_of_ble_eq_true rfl) [1, 2, 3, 0] rfl ?_
  refine k_iconst (pc' := 7) h dX5_commonDivisor_6 rfl ci_0 ?_
  refine k_istore (lv' := [(0, .long x0), (2, .long x1), (4, .long x0), (6, .long x1), (8, .int (0 : Int32))]) (pc' := 9) h dX5_commonDivisor_7 rfl (Nat.le_of_ble_eq_true rfl) [1, 2, 3, 4, 0] rfl ?_
  obtain ⟨q5, hq5, hf⟩ := bd_s hf
  refine w_X5_commonDivisor_9 h x0 x1  fuel x0 x1 (0 : Int32) st q5 hq5 ?_
  refine k_lload (pc' := 47) h dX5_commonDivisor_45 rfl 2 rfl ?_
  exact k_lret h r dX5_commonDivisor_47 (lf_l hf)
noncomputable def f_X5_tell (x0 : Int64) (x1 : Int64) (st : St) : Option (St) :=
  ((f_X5_commonDivisor x0 x1 st).bind (fun q1 => (if (lg_cmp q1.1 (0 : Int64)) ≤ 0 then (some q1.2) else (gd (nzl q1.1) (ls (sL q1.2 0 (x0 / q1.1)) (fun s4 => (gd (nzl q1.1) (ls (sL s4 1 (x1 / q1.1)) (fun s6 => (some s6))))))))))
set_option maxHeartbeats 4000000 in
theorem c_X5_tell {G : GG} (l : Launch) (x0 : Int64) (x1 : Int64) (st : St)  (st' : St) (hf : f_X5_tell x0 x1 st = some st') : MM l yX5_tell cX5_tell 7 none 1 (oC G) [.ref (al (oC G) 0), .long x0, .long x1] st none st' := by
  refine mk_MM (by decide +kernel) (Nat.le_of_ble_eq_true rfl) (fun X h r => ?_)
  refine k_sub (lv' := [(0, .ref (al (oC G) 0)), (1, .long x0), (3, .long x1)]) [0, 1, 2] rfl ?_
  unfold f_X5_tell at hf
  refine k_lload_n (pc' := 1) h dX5_tell_0 rfl rfl 1 rfl ?_
  refine k_lload_n (pc' := 2) h dX5_tell_1 rfl rfl 2 rfl ?_
  obtain ⟨q1, hq1, hf⟩ := bd_s hf
  refine k_callS (As := [.long x0, .long x1]) (rest := []) (rv := some (.long q1.1)) (st' := q1.2) (stk' := [.long q1.1]) (pc' := 5) h dX5_tell_2 rfl ml_X5_317 wc_X5_commonDivisor ws_X5_commonDivisor ⟨Nat.le_of_ble_eq_true rfl, Nat.le_of_ble_eq_true rfl⟩ rfl rfl (Nat.le_of_ble_eq_true rfl) (fun l => c_X5_commonDivisor l x0 x1 st  _ _ hq1) rfl ?_
  refine k_lstore (lv' := [(0, .ref (al (oC G) 0)), (1, .long x0), (3, .long x1), (5, .long q1.1)]) (pc' := 7) h dX5_tell_5 rfl (Nat.le_of_ble_eq_true rfl) [1, 2, 3, 0] rfl ?_
  refine k_lload (pc' := 9) h dX5_tell_7 rfl 3 rfl ?_
  refine k_lconst (pc' := 10) h dX5_tell_9 rfl cl_0 ?_
  refine k_lcmp (pc' := 11) h dX5_tell_10 rfl ?_
  refine k_if_le (tgt := 30) (pc' := 14) h dX5_tell_11 rfl rfl (fun c2 => ?_) (fun c2 => ?_)
  · replace hf := if_t c2 hf
    exact k_vret h r dX5_tell_30 (lf_v hf)
  · replace hf := if_f c2 hf
    refine k_aload_n (pc' := 15) h dX5_tell_14 rfl rfl 0 rfl ?_
    refine k_lload_n (pc' := 16) h dX5_tell_15 rfl rfl 1 rfl ?_
    refine k_lload (pc' := 18) h dX5_tell_16 rfl 3 rfl ?_
    have g3 := gd_1 hf
    replace hf := gd_2 hf
    refine k_ldiv (pc' := 19) h dX5_tell_18 rfl (nzl_n g3) ?_
    refine k_putl (pc' := 22) h dX5_tell_19 rfl bC_us nC fp_X5_56 sl_us_10 sj_us_10 ?_
    obtain ⟨s4, hs4, hf⟩ := ls_s hf
    refine k_st hs4 ?_
    refine k_aload_n (pc' := 23) h dX5_tell_22 rfl rfl 0 rfl ?_
    refine k_lload_n (pc' := 24) h dX5_tell_23 rfl rfl 2 rfl ?_
    refine k_lload (pc' := 26) h dX5_tell_24 rfl 3 rfl ?_
    have g5 := gd_1 hf
    replace hf := gd_2 hf
    refine k_ldiv (pc' := 27) h dX5_tell_26 rfl (nzl_n g5) ?_
    refine k_putl (pc' := 30) h dX5_tell_27 rfl bC_us nC fp_X5_60 sl_us_11 sj_us_11 ?_
    obtain ⟨s6, hs6, hf⟩ := ls_s hf
    refine k_st hs6 ?_
    exact k_vret h r dX5_tell_30 (lf_v hf)
noncomputable def f_X5_likely (x0 : Int32) (x1 : Int32) (x2 : Int32) (st : St) : Option (Int32 × St) :=
  ((f_X5_isSign x0 st).bind (fun q1 => (if q1.1 = 0 then (some ((-1 : Int32), q1.2)) else ((f_X5_isSign x1 q1.2).bind (fun q3 => (if q3.1 = 0 then (some ((-1 : Int32), q3.2)) else ((f_X5_isThing x2 q3.2).bind (fun q5 => (if q5.1 = 0 then (some ((-1 : Int32), q5.2)) else ((f_X3_thoseWhoLook x0 x1 q5.2).bind (fun q7 => (if q7.1 = 0 then ((f_X5_found (4 : Int32) q7.2).bind (fun q12 => (some (q12.1, q12.2)))) else ((f_X3_comingsThatWant q7.1 x2 q7.2).bind (fun q9 => ((f_X3_comingsOf q7.1 q9.2).bind (fun q10 => ((f_X5_tell q9.1.toInt64 q10.1.toInt64 q10.2).bind (fun q11 => (some ((1 : Int32), q11))))))))))))))))))))
set_option maxHeartbeats 4000000 in
theorem c_X5_likely {G : GG} (l : Launch) (x0 : Int32) (x1 : Int32) (x2 : Int32) (st : St)  (rr : Int32) (st' : St) (hf : f_X5_likely x0 x1 x2 st = some (rr, st')) : MM l yX5_likely cX5_likely 5 (some .int) 3 (oC G) [.ref (al (oC G) 0), .int x0, .int x1, .int x2] st (some (.int rr)) st' := by
  refine mk_MM (by decide +kernel) (Nat.le_of_ble_eq_true rfl) (fun X h r => ?_)
  refine k_sub (lv' := [(0, .ref (al (oC G) 0)), (1, .int x0), (2, .int x1), (3, .int x2)]) [0, 1, 2, 3] rfl ?_
  unfold f_X5_likely at hf
  refine k_iload_n (pc' := 1) h dX5_likely_0 rfl rfl 1 rfl ?_
  obtain ⟨q1, hq1, hf⟩ := bd_s hf
  refine k_callS (As := [.int x0]) (rest := []) (rv := some (.int q1.1)) (st' := q1.2) (stk' := [.int q1.1]) (pc' := 4) h dX5_likely_1 rfl ml_X5_197 wc_X5_isSign ws_X5_isSign ⟨Nat.le_of_ble_eq_true rfl, Nat.le_of_ble_eq_true rfl⟩ rfl rfl (Nat.le_of_ble_eq_true rfl) (fun l => c_X5_isSign l x0 st  _ _ hq1) rfl ?_
  refine k_if_eq (tgt := 21) (pc' := 7) h dX5_likely_4 rfl rfl (fun c2 => ?_) (fun c2 => ?_)
  · replace hf := if_t c2 hf
    refine k_iconst (pc' := 22) h dX5_likely_21 rfl ci_m1 ?_
    exact k_iret h r dX5_likely_22 (lf_i hf)
  · replace hf := if_f c2 hf
    refine k_iload_n (pc' := 8) h dX5_likely_7 rfl rfl 2 rfl ?_
    obtain ⟨q3, hq3, hf⟩ := bd_s hf
    refine k_callS (As := [.int x1]) (rest := []) (rv := some (.int q3.1)) (st' := q3.2) (stk' := [.int q3.1]) (pc' := 11) h dX5_likely_8 rfl ml_X5_197 wc_X5_isSign ws_X5_isSign ⟨Nat.le_of_ble_eq_true rfl, Nat.le_of_ble_eq_true rfl⟩ rfl rfl (Nat.le_of_ble_eq_true rfl) (fun l => c_X5_isSign l x1 q1.2  _ _ hq3) rfl ?_
    refine k_if_eq (tgt := 21) (pc' := 14) h dX5_likely_11 rfl rfl (fun c4 => ?_) (fun c4 => ?_)
    · replace hf := if_t c4 hf
      refine k_iconst (pc' := 22) h dX5_likely_21 rfl ci_m1 ?_
      exact k_iret h r dX5_likely_22 (lf_i hf)
    · replace hf := if_f c4 hf
      refine k_iload_n (pc' := 15) h dX5_likely_14 rfl rfl 3 rfl ?_
      obtain ⟨q5, hq5, hf⟩ := bd_s hf
      refine k_callS (As := [.int x2]) (rest := []) (rv := some (.int q5.1)) (st' := q5.2) (stk' := [.int q5.1]) (pc' := 18) h dX5_likely_15 rfl ml_X5_155 wc_X5_isThing ws_X5_isThing ⟨Nat.le_of_ble_eq_true rfl, Nat.le_of_ble_eq_true rfl⟩ rfl rfl (Nat.le_of_ble_eq_true rfl) (fun l => c_X5_isThing l x2 q3.2  _ _ hq5) rfl ?_
      refine k_if_ne (tgt := 23) (pc' := 21) h dX5_likely_18 rfl rfl (fun c6 => ?_) (fun c6 => ?_)
      · replace hf := if_f c6 hf
        refine k_aload_n (pc' := 24) h dX5_likely_23 rfl rfl 0 rfl ?_
        refine k_get (v := .ref (al (oC G) 15)) (pc' := 27) h dX5_likely_24 rfl bC_us fl_X5_29 rfl ?_
        refine k_iload_n (pc' := 28) h dX5_likely_27 rfl rfl 1 rfl ?_
        refine k_iload_n (pc' := 29) h dX5_likely_28 rfl rfl 2 rfl ?_
        obtain ⟨q7, hq7, hf⟩ := bd_s hf
        refine k_callV (As := [.int x0, .int x1]) (rest := []) (rv := some (.int q7.1)) (st' := q7.2) (stk' := [.int q7.1]) (pc' := 32) h dX5_likely_29 rfl ml_X5_144 wc_X3_thoseWhoLook wi_X3_thoseWhoLook ⟨Nat.le_of_ble_eq_true rfl, Nat.le_of_ble_eq_true rfl⟩ bC_sh rfl rfl rfl rfl (Nat.le_of_ble_eq_true rfl) (fun l => c_X3_thoseWhoLook l x0 x1 q5.2  _ _ hq7) rfl ?_
        refine k_istore (lv' := [(0, .ref (al (oC G) 0)), (1, .int x0), (2, .int x1), (3, .int x2), (4, .int q7.1)]) (pc' := 34) h dX5_likely_32 rfl (Nat.le_of_ble_eq_true rfl) [1, 2, 3, 4, 0] rfl ?_
        refine k_iload (pc' := 36) h dX5_likely_34 rfl 4 rfl ?_
        refine k_if_ne (tgt := 45) (pc' := 39) h dX5_likely_36 rfl rfl (fun c8 => ?_) (fun c8 => ?_)
        · replace hf := if_f c8 hf
          refine k_aload_n (pc' := 46) h dX5_likely_45 rfl rfl 0 rfl ?_
          refine k_aload_n (pc' := 47) h dX5_likely_46 rfl rfl 0 rfl ?_
          refine k_get (v := .ref (al (oC G) 15)) (pc' := 50) h dX5_likely_47 rfl bC_us fl_X5_29 rfl ?_
          refine k_iload (pc' := 52) h dX5_likely_50 rfl 4 rfl ?_
          refine k_iload_n (pc' := 53) h dX5_likely_52 rfl rfl 3 rfl ?_
          obtain ⟨q9, hq9, hf⟩ := bd_s hf
          refine k_callV (As := [.int q7.1, .int x2]) (rest := [.ref (al (oC G) 0)]) (rv := some (.int q9.1)) (st' := q9.2) (stk' := [.int q9.1, .ref (al (oC G) 0)]) (pc' := 56) h dX5_likely_53 rfl ml_X5_210 wc_X3_comingsThatWant wi_X3_comingsThatWant ⟨Nat.le_of_ble_eq_true rfl, Nat.le_of_ble_eq_true rfl⟩ bC_sh rfl rfl rfl rfl (Nat.le_of_ble_eq_true rfl) (fun l => c_X3_comingsThatWant l q7.1 x2 q7.2  _ _ hq9) rfl ?_
          refine k_i2l (pc' := 57) h dX5_likely_56 rfl ?_
          refine k_aload_n (pc' := 58) h dX5_likely_57 rfl rfl 0 rfl ?_
          refine k_get (v := .ref (al (oC G) 15)) (pc' := 61) h dX5_likely_58 rfl bC_us fl_X5_29 rfl ?_
          refine k_iload (pc' := 63) h dX5_likely_61 rfl 4 rfl ?_
          obtain ⟨q10, hq10, hf⟩ := bd_s hf
          refine k_callV (As := [.int q7.1]) (rest := [.long q9.1.toInt64, .ref (al (oC G) 0)]) (rv := some (.int q10.1)) (st' := q10.2) (stk' := [.int q10.1, .long q9.1.toInt64, .ref (al (oC G) 0)]) (pc' := 66) h dX5_likely_63 rfl ml_X5_213 wc_X3_comingsOf wi_X3_comingsOf ⟨Nat.le_of_ble_eq_true rfl, Nat.le_of_ble_eq_true rfl⟩ bC_sh rfl rfl rfl rfl (Nat.le_of_ble_eq_true rfl) (fun l => c_X3_comingsOf l q7.1 q9.2  _ _ hq10) rfl ?_
          refine k_i2l (pc' := 67) h dX5_likely_66 rfl ?_
          obtain ⟨q11, hq11, hf⟩ := bd_s hf
          refine k_callV (As := [.long q9.1.toInt64, .long q10.1.toInt64]) (rest := []) (rv := none) (st' := q11) (stk' := []) (pc' := 70) h dX5_likely_67 rfl ml_X5_216 wc_X5_tell wi_X5_tell ⟨Nat.le_of_ble_eq_true rfl, Nat.le_of_ble_eq_true rfl⟩ bC_us rfl rfl rfl rfl (Nat.le_of_ble_eq_true rfl) (fun l => c_X5_tell l q9.1.toInt64 q10.1.toInt64 q10.2  _ hq11) rfl ?_
          refine k_iconst (pc' := 71) h dX5_likely_70 rfl ci_1 ?_
          exact k_iret h r dX5_likely_71 (lf_i hf)
        · replace hf := if_t c8 hf
          refine k_aload_n (pc' := 40) h dX5_likely_39 rfl rfl 0 rfl ?_
          refine k_iconst (pc' := 41) h dX5_likely_40 rfl ci_4 ?_
          obtain ⟨q12, hq12, hf⟩ := bd_s hf
          refine k_callV (As := [.int (4 : Int32)]) (rest := []) (rv := some (.int q12.1)) (st' := q12.2) (stk' := [.int q12.1]) (pc' := 44) h dX5_likely_41 rfl ml_X5_68 wc_X5_found wi_X5_found ⟨Nat.le_of_ble_eq_true rfl, Nat.le_of_ble_eq_true rfl⟩ bC_us rfl rfl rfl rfl (Nat.le_of_ble_eq_true rfl) (fun l => c_X5_found l (4 : Int32) q7.2  _ _ hq12) rfl ?_
          exact k_iret h r dX5_likely_44 (lf_i hf)
      · replace hf := if_t c6 hf
        refine k_iconst (pc' := 22) h dX5_likely_21 rfl ci_m1 ?_
        exact k_iret h r dX5_likely_22 (lf_i hf)
noncomputable def f_X5_takes (x0 : Int32) (x1 : Int32) (x2 : Int32) (st : St) : Option (Int32 × St) :=
  ((f_X5_isSign x0 st).bind (fun q1 => (if q1.1 = 0 then (some ((-1 : Int32), q1.2)) else ((f_X5_isSign x1 q1.2).bind (fun q3 => (if q3.1 = 0 then (some ((-1 : Int32), q3.2)) else ((f_X5_isThingOrNone x2 q3.2).bind (fun q5 => (if q5.1 = 0 then (some ((-1 : Int32), q5.2)) else ((f_X3_thoseWhoLook x0 x1 q5.2).bind (fun q7 => (if q7.1 = 0 then ((f_X5_found (4 : Int32) q7.2).bind (fun q12 => (some (q12.1, q12.2)))) else ((f_X3_secondsOf q7.1 x2 q7.2).bind (fun q9 => ((f_X3_comingsOf q7.1 q9.2).bind (fun q10 => ((f_X5_tell q9.1.toInt64 q10.1.toInt64 q10.2).bind (fun q11 => (some ((1 : Int32), q11))))))))))))))))))))
set_option maxHeartbeats 4000000 in
theorem c_X5_takes {G : GG} (l : Launch) (x0 : Int32) (x1 : Int32) (x2 : Int32) (st : St)  (rr : Int32) (st' : St) (hf : f_X5_takes x0 x1 x2 st = some (rr, st')) : MM l yX5_takes cX5_takes 5 (some .int) 5 (oC G) [.ref (al (oC G) 0), .int x0, .int x1, .int x2] st (some (.int rr)) st' := by
  refine mk_MM (by decide +kernel) (Nat.le_of_ble_eq_true rfl) (fun X h r => ?_)
  refine k_sub (lv' := [(0, .ref (al (oC G) 0)), (1, .int x0), (2, .int x1), (3, .int x2)]) [0, 1, 2, 3] rfl ?_
  unfold f_X5_takes at hf
  refine k_iload_n (pc' := 1) h dX5_takes_0 rfl rfl 1 rfl ?_
  obtain ⟨q1, hq1, hf⟩ := bd_s hf
  refine k_callS (As := [.int x0]) (rest := []) (rv := some (.int q1.1)) (st' := q1.2) (stk' := [.int q1.1]) (pc' := 4) h dX5_takes_1 rfl ml_X5_197 wc_X5_isSign ws_X5_isSign ⟨Nat.le_of_ble_eq_true rfl, Nat.le_of_ble_eq_true rfl⟩ rfl rfl (Nat.le_of_ble_eq_true rfl) (fun l => c_X5_isSign l x0 st  _ _ hq1) rfl ?_
  refine k_if_eq (tgt := 21) (pc' := 7) h dX5_takes_4 rfl rfl (fun c2 => ?_) (fun c2 => ?_)
  · replace hf := if_t c2 hf
    refine k_iconst (pc' := 22) h dX5_takes_21 rfl ci_m1 ?_
    exact k_iret h r dX5_takes_22 (lf_i hf)
  · replace hf := if_f c2 hf
    refine k_iload_n (pc' := 8) h dX5_takes_7 rfl rfl 2 rfl ?_
    obtain ⟨q3, hq3, hf⟩ := bd_s hf
    refine k_callS (As := [.int x1]) (rest := []) (rv := some (.int q3.1)) (st' := q3.2) (stk' := [.int q3.1]) (pc' := 11) h dX5_takes_8 rfl ml_X5_197 wc_X5_isSign ws_X5_isSign ⟨Nat.le_of_ble_eq_true rfl, Nat.le_of_ble_eq_true rfl⟩ rfl rfl (Nat.le_of_ble_eq_true rfl) (fun l => c_X5_isSign l x1 q1.2  _ _ hq3) rfl ?_
    refine k_if_eq (tgt := 21) (pc' := 14) h dX5_takes_11 rfl rfl (fun c4 => ?_) (fun c4 => ?_)
    · replace hf := if_t c4 hf
      refine k_iconst (pc' := 22) h dX5_takes_21 rfl ci_m1 ?_
      exact k_iret h r dX5_takes_22 (lf_i hf)
    · replace hf := if_f c4 hf
      refine k_iload_n (pc' := 15) h dX5_takes_14 rfl rfl 3 rfl ?_
      obtain ⟨q5, hq5, hf⟩ := bd_s hf
      refine k_callS (As := [.int x2]) (rest := []) (rv := some (.int q5.1)) (st' := q5.2) (stk' := [.int q5.1]) (pc' := 18) h dX5_takes_15 rfl ml_X5_168 wc_X5_isThingOrNone ws_X5_isThingOrNone ⟨Nat.le_of_ble_eq_true rfl, Nat.le_of_ble_eq_true rfl⟩ rfl rfl (Nat.le_of_ble_eq_true rfl) (fun l => c_X5_isThingOrNone l x2 q3.2  _ _ hq5) rfl ?_
      refine k_if_ne (tgt := 23) (pc' := 21) h dX5_takes_18 rfl rfl (fun c6 => ?_) (fun c6 => ?_)
      · replace hf := if_f c6 hf
        refine k_aload_n (pc' := 24) h dX5_takes_23 rfl rfl 0 rfl ?_
        refine k_get (v := .ref (al (oC G) 15)) (pc' := 27) h dX5_takes_24 rfl bC_us fl_X5_29 rfl ?_
        refine k_iload_n (pc' := 28) h dX5_takes_27 rfl rfl 1 rfl ?_
        refine k_iload_n (pc' := 29) h dX5_takes_28 rfl rfl 2 rfl ?_
        obtain ⟨q7, hq7, hf⟩ := bd_s hf
        refine k_callV (As := [.int x0, .int x1]) (rest := []) (rv := some (.int q7.1)) (st' := q7.2) (stk' := [.int q7.1]) (pc' := 32) h dX5_takes_29 rfl ml_X5_144 wc_X3_thoseWhoLook wi_X3_thoseWhoLook ⟨Nat.le_of_ble_eq_true rfl, Nat.le_of_ble_eq_true rfl⟩ bC_sh rfl rfl rfl rfl (Nat.le_of_ble_eq_true rfl) (fun l => c_X3_thoseWhoLook l x0 x1 q5.2  _ _ hq7) rfl ?_
        refine k_istore (lv' := [(0, .ref (al (oC G) 0)), (1, .int x0), (2, .int x1), (3, .int x2), (4, .int q7.1)]) (pc' := 34) h dX5_takes_32 rfl (Nat.le_of_ble_eq_true rfl) [1, 2, 3, 4, 0] rfl ?_
        refine k_iload (pc' := 36) h dX5_takes_34 rfl 4 rfl ?_
        refine k_if_ne (tgt := 45) (pc' := 39) h dX5_takes_36 rfl rfl (fun c8 => ?_) (fun c8 => ?_)
        · replace hf := if_f c8 hf
          refine k_aload_n (pc' := 46) h dX5_takes_45 rfl rfl 0 rfl ?_
          refine k_aload_n (pc' := 47) h dX5_takes_46 rfl rfl 0 rfl ?_
          refine k_get (v := .ref (al (oC G) 15)) (pc' := 50) h dX5_takes_47 rfl bC_us fl_X5_29 rfl ?_
          refine k_iload (pc' := 52) h dX5_takes_50 rfl 4 rfl ?_
          refine k_iload_n (pc' := 53) h dX5_takes_52 rfl rfl 3 rfl ?_
          obtain ⟨q9, hq9, hf⟩ := bd_s hf
          refine k_callV (As := [.int q7.1, .int x2]) (rest := [.ref (al (oC G) 0)]) (rv := some (.int q9.1)) (st' := q9.2) (stk' := [.int q9.1, .ref (al (oC G) 0)]) (pc' := 56) h dX5_takes_53 rfl ml_X5_220 wc_X3_secondsOf wi_X3_secondsOf ⟨Nat.le_of_ble_eq_true rfl, Nat.le_of_ble_eq_true rfl⟩ bC_sh rfl rfl rfl rfl (Nat.le_of_ble_eq_true rfl) (fun l => c_X3_secondsOf l q7.1 x2 q7.2  _ _ hq9) rfl ?_
          refine k_i2l (pc' := 57) h dX5_takes_56 rfl ?_
          refine k_aload_n (pc' := 58) h dX5_takes_57 rfl rfl 0 rfl ?_
          refine k_get (v := .ref (al (oC G) 15)) (pc' := 61) h dX5_takes_58 rfl bC_us fl_X5_29 rfl ?_
          refine k_iload (pc' := 63) h dX5_takes_61 rfl 4 rfl ?_
          obtain ⟨q10, hq10, hf⟩ := bd_s hf
          refine k_callV (As := [.int q7.1]) (rest := [.long q9.1.toInt64, .ref (al (oC G) 0)]) (rv := some (.int q10.1)) (st' := q10.2) (stk' := [.int q10.1, .long q9.1.toInt64, .ref (al (oC G) 0)]) (pc' := 66) h dX5_takes_63 rfl ml_X5_213 wc_X3_comingsOf wi_X3_comingsOf ⟨Nat.le_of_ble_eq_true rfl, Nat.le_of_ble_eq_true rfl⟩ bC_sh rfl rfl rfl rfl (Nat.le_of_ble_eq_true rfl) (fun l => c_X3_comingsOf l q7.1 q9.2  _ _ hq10) rfl ?_
          refine k_i2l (pc' := 67) h dX5_takes_66 rfl ?_
          obtain ⟨q11, hq11, hf⟩ := bd_s hf
          refine k_callV (As := [.long q9.1.toInt64, .long q10.1.toInt64]) (rest := []) (rv := none) (st' := q11) (stk' := []) (pc' := 70) h dX5_takes_67 rfl ml_X5_216 wc_X5_tell wi_X5_tell ⟨Nat.le_of_ble_eq_true rfl, Nat.le_of_ble_eq_true rfl⟩ bC_us rfl rfl rfl rfl (Nat.le_of_ble_eq_true rfl) (fun l => c_X5_tell l q9.1.toInt64 q10.1.toInt64 q10.2  _ hq11) rfl ?_
          refine k_iconst (pc' := 71) h dX5_takes_70 rfl ci_1 ?_
          exact k_iret h r dX5_takes_71 (lf_i hf)
        · replace hf := if_t c8 hf
          refine k_aload_n (pc' := 40) h dX5_takes_39 rfl rfl 0 rfl ?_
          refine k_iconst (pc' := 41) h dX5_takes_40 rfl ci_4 ?_
          obtain ⟨q12, hq12, hf⟩ := bd_s hf
          refine k_callV (As := [.int (4 : Int32)]) (rest := []) (rv := some (.int q12.1)) (st' := q12.2) (stk' := [.int q12.1]) (pc' := 44) h dX5_takes_41 rfl ml_X5_68 wc_X5_found wi_X5_found ⟨Nat.le_of_ble_eq_true rfl, Nat.le_of_ble_eq_true rfl⟩ bC_us rfl rfl rfl rfl (Nat.le_of_ble_eq_true rfl) (fun l => c_X5_found l (4 : Int32) q7.2  _ _ hq12) rfl ?_
          exact k_iret h r dX5_takes_44 (lf_i hf)
      · replace hf := if_t c6 hf
        refine k_iconst (pc' := 22) h dX5_takes_21 rfl ci_m1 ?_
        exact k_iret h r dX5_takes_22 (lf_i hf)
noncomputable def f_X5_quickest (x0 : Int32) (x1 : Int32) (st : St) : Option (Int32 × St) :=
  ((f_X5_isSign x0 st).bind (fun q1 => (if q1.1 = 0 then (some ((-1 : Int32), q1.2)) else ((f_X5_isSign x1 q1.2).bind (fun q3 => (if q3.1 = 0 then (some ((-1 : Int32), q3.2)) else ((f_X3_thoseWhoLook x0 x1 q3.2).bind (fun q5 => (if q5.1 = 0 then ((f_X5_found (4 : Int32) q5.2).bind (fun q11 => (some (q11.1, q11.2)))) else ((f_X3_quickestFor q5.1 q5.2).bind (fun q7 => ((f_X3_souredBy q5.1 q7.1 q7.2).bind (fun q8 => ((f_J6_bitCount_0f7a4 q8.1 q8.2).bind (fun q9 => (ls (sA q9.2 0 (upd (q9.2.1 0) 9 q9.1)) (fun s10 => (some (q7.1, s10)))))))))))))))))))
set_option maxHeartbeats 4000000 in
theorem c_X5_quickest {G : GG} (l : Launch) (x0 : Int32) (x1 : Int32) (st : St)  (rr : Int32) (st' : St) (hf : f_X5_quickest x0 x1 st = some (rr, st')) : MM l yX5_quickest cX5_quickest 5 (some .int) 6 (oC G) [.ref (al (oC G) 0), .int x0, .int x1] st (some (.int rr)) st' := by
  refine mk_MM (by decide +kernel) (Nat.le_of_ble_eq_true rfl) (fun X h r => ?_)
  refine k_sub (lv' := [(0, .ref (al (oC G) 0)), (1, .int x0), (2, .int x1)]) [0, 1, 2] rfl ?_
  unfold f_X5_quickest at hf
  refine k_iload_n (pc' := 1) h dX5_quickest_0 rfl rfl 1 rfl ?_
  obtain ⟨q1, hq1, hf⟩ := bd_s hf
  refine k_callS (As := [.int x0]) (rest := []) (rv := some (.int q1.1)) (st' := q1.2) (stk' := [.int q1.1]) (pc' := 4) h dX5_quickest_1 rfl ml_X5_197 wc_X5_isSign ws_X5_isSign ⟨Nat.le_of_ble_eq_true rfl, Nat.le_of_ble_eq_true rfl⟩ rfl rfl (Nat.le_of_ble_eq_true rfl) (fun l => c_X5_isSign l x0 st  _ _ hq1) rfl ?_
  refine k_if_eq (tgt := 14) (pc' := 7) h dX5_quickest_4 rfl rfl (fun c2 => ?_) (fun c2 => ?_)
  · replace hf := if_t c2 hf
    refine k_iconst (pc' := 15) h dX5_quickest_14 rfl ci_m1 ?_
    exact k_iret h r dX5_quickest_15 (lf_i hf)
  · replace hf := if_f c2 hf
    refine k_iload_n (pc' := 8) h dX5_quickest_7 rfl rfl 2 rfl ?_
    obtain ⟨q3, hq3, hf⟩ := bd_s hf
    refine k_callS (As := [.int x1]) (rest := []) (rv := some (.int q3.1)) (st' := q3.2) (stk' := [.int q3.1]) (pc' := 11) h dX5_quickest_8 rfl ml_X5_197 wc_X5_isSign ws_X5_isSign ⟨Nat.le_of_ble_eq_true rfl, Nat.le_of_ble_eq_true rfl⟩ rfl rfl (Nat.le_of_ble_eq_true rfl) (fun l => c_X5_isSign l x1 q1.2  _ _ hq3) rfl ?_
    refine k_if_ne (tgt := 16) (pc' := 14) h dX5_quickest_11 rfl rfl (fun c4 => ?_) (fun c4 => ?_)
    · replace hf := if_f c4 hf
      refine k_aload_n (pc' := 17) h dX5_quickest_16 rfl rfl 0 rfl ?_
      refine k_get (v := .ref (al (oC G) 15)) (pc' := 20) h dX5_quickest_17 rfl bC_us fl_X5_29 rfl ?_
      refine k_iload_n (pc' := 21) h dX5_quickest_20 rfl rfl 1 rfl ?_
      refine k_iload_n (pc' := 22) h dX5_quickest_21 rfl rfl 2 rfl ?_
      obtain ⟨q5, hq5, hf⟩ := bd_s hf
      refine k_callV (As := [.int x0, .int x1]) (rest := []) (rv := some (.int q5.1)) (st' := q5.2) (stk' := [.int q5.1]) (pc' := 25) h dX5_quickest_22 rfl ml_X5_144 wc_X3_thoseWhoLook wi_X3_thoseWhoLook ⟨Nat.le_of_ble_eq_true rfl, Nat.le_of_ble_eq_true rfl⟩ bC_sh rfl rfl rfl rfl (Nat.le_of_ble_eq_true rfl) (fun l => c_X3_thoseWhoLook l x0 x1 q3.2  _ _ hq5) rfl ?_
      refine k_istore_n (lv' := [(0, .ref (al (oC G) 0)), (1, .int x0), (2, .int x1), (3, .int q5.1)]) (pc' := 26) h dX5_quickest_25 rfl rfl (Nat.le_of_ble_eq_true rfl) [1, 2, 3, 0] rfl ?_
      refine k_iload_n (pc' := 27) h dX5_quickest_26 rfl rfl 3 rfl ?_
      refine k_if_ne (tgt := 36) (pc' := 30) h dX5_quickest_27 rfl rfl (fun c6 => ?_) (fun c6 => ?_)
      · replace hf := if_f c6 hf
        refine k_aload_n (pc' := 37) h dX5_quickest_36 rfl rfl 0 rfl ?_
        refine k_get (v := .ref (al (oC G) 15)) (pc' := 40) h dX5_quickest_37 rfl bC_us fl_X5_29 rfl ?_
        refine k_iload_n (pc' := 41) h dX5_quickest_40 rfl rfl 3 rfl ?_
        obtain ⟨q7, hq7, hf⟩ := bd_s hf
        refine k_callV (As := [.int q5.1]) (rest := []) (rv := some (.int q7.1)) (st' := q7.2) (stk' := [.int q7.1]) (pc' := 44) h dX5_quickest_41 rfl ml_X5_223 wc_X3_quickestFor wi_X3_quickestFor ⟨Nat.le_of_ble_eq_true rfl, Nat.le_of_ble_eq_true rfl⟩ bC_sh rfl rfl rfl rfl (Nat.le_of_ble_eq_true rfl) (fun l => c_X3_quickestFor l q5.1 q5.2  _ _ hq7) rfl ?_
        refine k_istore (lv' := [(0, .ref (al (oC G) 0)), (1, .int x0), (2, .int x1), (3, .int q5.1), (4, .int q7.1)]) (pc' := 46) h dX5_quickest_44 rfl (Nat.le_of_ble_eq_true rfl) [1, 2, 3, 4, 0] rfl ?_
        refine k_aload_n (pc' := 47) h dX5_quickest_46 rfl rfl 0 rfl ?_
        refine k_aload_n (pc' := 48) h dX5_quickest_47 rfl rfl 0 rfl ?_
        refine k_get (v := .ref (al (oC G) 15)) (pc' := 51) h dX5_quickest_48 rfl bC_us fl_X5_29 rfl ?_
        refine k_iload_n (pc' := 52) h dX5_quickest_51 rfl rfl 3 rfl ?_
        refine k_iload (pc' := 54) h dX5_quickest_52 rfl 4 rfl ?_
        obtain ⟨q8, hq8, hf⟩ := bd_s hf
        refine k_callV (As := [.int q5.1, .int q7.1]) (rest := [.ref (al (oC G) 0)]) (rv := some (.int q8.1)) (st' := q8.2) (stk' := [.int q8.1, .ref (al (oC G) 0)]) (pc' := 57) h dX5_quickest_54 rfl ml_X5_226 wc_X3_souredBy wi_X3_souredBy ⟨Nat.le_of_ble_eq_true rfl, Nat.le_of_ble_eq_true rfl⟩ bC_sh rfl rfl rfl rfl (Nat.le_of_ble_eq_true rfl) (fun l => c_X3_souredBy l q5.1 q7.1 q7.2  _ _ hq8) rfl ?_
        obtain ⟨q9, hq9, hf⟩ := bd_s hf
        refine k_callS (As := [.int q8.1]) (rest := [.ref (al (oC G) 0)]) (rv := some (.int q9.1)) (st' := q9.2) (stk' := [.int q9.1, .ref (al (oC G) 0)]) (pc' := 60) h dX5_quickest_57 rfl ml_X5_147 wc_J6_bitCount_0f7a4 ws_J6_bitCount_0f7a4 ⟨Nat.le_of_ble_eq_true rfl, Nat.le_of_ble_eq_true rfl⟩ rfl rfl (Nat.le_of_ble_eq_true rfl) (fun l => c_J6_bitCount_0f7a4 l q8.1 q8.2  _ _ hq9) rfl ?_
        refine k_put (pc' := 63) h dX5_quickest_60 rfl bC_us fp_X5_53 sf_us_9 sj_us_9 ?_
        obtain ⟨s10, hs10, hf⟩ := ls_s hf
        refine k_st hs10 ?_
        refine k_iload (pc' := 65) h dX5_quickest_63 rfl 4 rfl ?_
        exact k_iret h r dX5_quickest_65 (lf_i hf)
      · replace hf := if_t c6 hf
        refine k_aload_n (pc' := 31) h dX5_quickest_30 rfl rfl 0 rfl ?_
        refine k_iconst (pc' := 32) h dX5_quickest_31 rfl ci_4 ?_
        obtain ⟨q11, hq11, hf⟩ := bd_s hf
        refine k_callV (As := [.int (4 : Int32)]) (rest := []) (rv := some (.int q11.1)) (st' := q11.2) (stk' := [.int q11.1]) (pc' := 35) h dX5_quickest_32 rfl ml_X5_68 wc_X5_found wi_X5_found ⟨Nat.le_of_ble_eq_true rfl, Nat.le_of_ble_eq_true rfl⟩ bC_us rfl rfl rfl rfl (Nat.le_of_ble_eq_true rfl) (fun l => c_X5_found l (4 : Int32) q5.2  _ _ hq11) rfl ?_
        exact k_iret h r dX5_quickest_35 (lf_i hf)
    · replace hf := if_t c4 hf
      refine k_iconst (pc' := 15) h dX5_quickest_14 rfl ci_m1 ?_
      exact k_iret h r dX5_quickest_15 (lf_i hf)
noncomputable def l_X5_isQueue_5 (p1 : Nat) (p2 : Int32) (v3 : Int32) (v4 : Int32) (st : St) : Option ((Int32 × Int32 × St) ⊕ ((Int32 × St) ⊕ (Int32 × Int32 × St))) :=
  (if p2 ≤ (v4 + (1 : Int32)) then (some (.inr (.inr (v3, v4, st)))) else (gd (inb v4 40) ((f_X5_isRegular (st.1 p1 v4.toNatClampNeg) st).bind (fun q3 => (if q3.1 = 0 then (some (.inr (.inl ((0 : Int32), q3.2)))) else (gd (inb (v4 + (1 : Int32)) 40) (if (q3.2.1 p1 (v4 + (1 : Int32)).toNatClampNeg) < v3 then (some (.inr (.inl ((0 : Int32), q3.2)))) else (gd (inb (v4 + (1 : Int32)) 40) (if (q3.2.1 p1 (v4 + (1 : Int32)).toNatClampNeg) ≤ (999 : Int32) then (gd (inb (v4 + (1 : Int32)) 40) (lw (q3.2.1 p1 (v4 + (1 : Int32)).toNatClampNeg) (fun y10 => (some (.inl (y10, v4 + (2 : Int32), q3.2)))))) else (some (.inr (.inl ((0 : Int32), q3.2)))))))))))))
set_option maxHeartbeats 4000000 in
theorem w_X5_isQueue_5 {G : GG} {X : Cx} (h : Ok X (oC G) cX5_isQueue RX5 5 (RM 1)) {P : Option Value → St → Prop} (r : Rt X (oC G) P (some .boolean)) (p1 : Nat) (p2 : Int32) (hp1a : 2 ≤ p1) (hp1b : p1 < 8) (n : Nat) (v3 : Int32) (v4 : Int32) (st : St) (q : (Int32 × St) ⊕ (Int32 × Int32 × St)) (hq : iter (fun v : Int32 × Int32 × St => l_X5_isQueue_5 p1 p2 v.1 v.2.1 v.2.2) n (v3, v4, st) = some q) (kr : ∀ rs, q = .inl rs → P (some (.int rs.1)) rs.2) (kx : ∀ v : Int32 × Int32 × St, q = .inr v → Wk X (oC G) 5 v.2.2 61 [(0, .ref (al (oC G) 0)), (1, .ref (al (oC G) p1)), (2, .int p2), (3, .int v.1), (4, .int v.2.1)] []) : Wk X (oC G) 5 st 5 [(0, .ref (al (oC G) 0)), (1, .ref (al (oC G) p1)), (2, .int p2), (3, .int v3), (4, .int v4)] [] := by
  refine iter_rule (hd := (fun v : Int32 × Int32 × St => Wk X (oC G) 5 v.2.2 5 [(0, .ref (al (oC G) 0)), (1, .ref (al (oC G) p1)), (2, .int p2), (3, .int v.1), (4, .int v.2.1)] [])) (ex := (Sum.elim (fun rs : Int32 × St => P (some (.int rs.1)) rs.2) (fun v : Int32 × Int32 × St => Wk X (oC G) 5 v.2.2 61 [(0, .ref (al (oC G) 0)), (1, .ref (al (oC G) p1)), (2, .int p2), (3, .int v.1), (4, .int v.2.1)] []))) ?_ n (v3, v4, st) q hq (by cases q with
    | inl rs => exact kr rs rfl
    | inr v => exact kx v rfl)
  rintro ⟨v3, v4, st⟩ oo hbv K
  show Wk X (oC G) 5 st 5 [(0, .ref (al (oC G) 0)), (1, .ref (al (oC G) p1)), (2, .int p2), (3, .int v3), (4, .int v4)] []
  have hf : l_X5_isQueue_5 p1 p2 v3 v4 st = some oo := hbv
  unfold l_X5_isQueue_5 at hf
  refine k_iload (pc' := 7) h dX5_isQueue_5 rfl 4 rfl ?_
  refine k_iconst (pc' := 8) h dX5_isQueue_7 rfl ci_1 ?_
  refine k_iadd (pc' := 9) h dX5_isQueue_8 rfl ?_
  refine k_iload_n (pc' := 10) h dX5_isQueue_9 rfl rfl 2 rfl ?_
  refine k_icmp_ge (tgt := 61) (pc' := 13) h dX5_isQueue_10 rfl rfl (fun c1 => ?_) (fun c1 => ?_)
  · replace hf := if_t c1 hf
    refine k_sub (lv' := [(0, .ref (al (oC G) 0)), (1, .ref (al (oC G) p1)), (2, .int p2), (3, .int v3), (4, .int v4)]) [0, 1, 2, 3, 4] rfl ?_
    exact lp_o hf K
  · replace hf := if_f c1 hf
    refine k_aload_n (pc' := 14) h dX5_isQueue_13 rfl rfl 0 rfl ?_
    refine k_aload_n (pc' := 15) h dX5_isQueue_14 rfl rfl 1 rfl ?_
    refine k_iload (pc' := 17) h dX5_isQueue_15 rfl 4 rfl ?_
    have g2 := gd_1 hf
    replace hf := gd_2 hf
    refine k_iald (pc' := 18) h dX5_isQueue_17 rfl (aC_row hp1a hp1b) g2 ?_
    obtain ⟨q3, hq3, hf⟩ := bd_s hf
    refine k_callV (As := [.int (st.1 p1 v4.toNatClampNeg)]) (rest := []) (rv := some (.int q3.1)) (st' := q3.2) (stk' := [.int q3.1]) (pc' := 21) h dX5_isQueue_18 rfl ml_X5_110 wc_X5_isRegular wi_X5_isRegular ⟨Nat.le_of_ble_eq_true rfl, Nat.le_of_ble_eq_true rfl⟩ bC_us rfl rfl rfl rfl (Nat.le_of_ble_eq_true rfl) (fun l => c_X5_isRegular l (st.1 p1 v4.toNatClampNeg) st  _ _ hq3) rfl ?_
    refine k_if_eq (tgt := 46) (pc' := 24) h dX5_isQueue_21 rfl rfl (fun c4 => ?_) (fun c4 => ?_)
    · replace hf := if_t c4 hf
      refine k_iconst (pc' := 47) h dX5_isQueue_46 rfl ci_0 ?_
      exact k_zret h r dX5_isQueue_47 (by decide) (lp_o hf K)
    · replace hf := if_f c4 hf
      refine k_aload_n (pc' := 25) h dX5_isQueue_24 rfl rfl 1 rfl ?_
      refine k_iload (pc' := 27) h dX5_isQueue_25 rfl 4 rfl ?_
      refine k_iconst (pc' := 28) h dX5_isQueue_27 rfl ci_1 ?_
      refine k_iadd (pc' := 29) h dX5_isQueue_28 rfl ?_
      have g5 := gd_1 hf
      replace hf := gd_2 hf
      refine k_iald (pc' := 30) h dX5_isQueue_29 rfl (aC_row hp1a hp1b) g5 ?_
      refine k_iload_n (pc' := 31) h dX5_isQueue_30 rfl rfl 3 rfl ?_
      refine k_icmp_lt (tgt := 46) (pc' := 34) h dX5_isQueue_31 rfl rfl (fun c6 => ?_) (fun c6 => ?_)
      · replace hf := if_t c6 hf
        refine k_iconst (pc' := 47) h dX5_isQueue_46 rfl ci_0 ?_
        exact k_zret h r dX5_isQueue_47 (by decide) (lp_o hf K)
      · replace hf := if_f c6 hf
        refine k_aload_n (pc' := 35) h dX5_isQueue_34 rfl rfl 1 rfl ?_
        refine k_iload (pc' := 37) h dX5_isQueue_35 rfl 4 rfl ?_
        refine k_iconst (pc' := 38) h dX5_isQueue_37 rfl ci_1 ?_
        refine k_iadd (pc' := 39) h dX5_isQueue_38 rfl ?_
        have g7 := gd_1 hf
        replace hf := gd_2 hf
        refine k_iald (pc' := 40) h dX5_isQueue_39 rfl (aC_row hp1a hp1b) g7 ?_
        refine k_sipush (pc' := 43) h dX5_isQueue_40 rfl cs_999 ?_
        refine k_icmp_le (tgt := 48) (pc' := 46) h dX5_isQueue_43 rfl rfl (fun c8 => ?_) (fun c8 => ?_)
        · replace hf := if_t c8 hf
          refine k_aload_n (pc' := 49) h dX5_isQueue_48 rfl rfl 1 rfl ?_
          refine k_iload (pc' := 51) h dX5_isQueue_49 rfl 4 rfl ?_
          refine k_iconst (pc' := 52) h dX5_isQueue_51 rfl ci_1 ?_
          refine k_iadd (pc' := 53) h dX5_isQueue_52 rfl ?_
          have g9 := gd_1 hf
          replace hf := gd_2 hf
          refine k_iald (pc' := 54) h dX5_isQueue_53 rfl (aC_row hp1a hp1b) g9 ?_
          obtain ⟨y10, hy10, hf⟩ := lw_s hf
          refine k_eqi hy10 ?_
          refine k_istore_n (lv' := [(0, .ref (al (oC G) 0)), (1, .ref (al (oC G) p1)), (2, .int p2), (3, .int y10), (4, .int v4)]) (pc' := 55) h dX5_isQueue_54 rfl rfl (Nat.le_of_ble_eq_true rfl) [1, 2, 3, 0, 4] rfl ?_
          refine k_iinc (lv' := [(0, .ref (al (oC G) 0)), (1, .ref (al (oC G) p1)), (2, .int p2), (3, .int y10), (4, .int (v4 + (2 : Int32)))]) (pc' := 58) h dX5_isQueue_55 rfl 4 rfl (congrArg (fun z => v4 + z) ci_2) (Nat.le_of_ble_eq_true rfl) [1, 2, 3, 4, 0] rfl ?_
          refine k_goto (tgt := 5) h dX5_isQueue_58 rfl ?_
          refine k_sub (lv' := [(0, .ref (al (oC G) 0)), (1, .ref (al (oC G) p1)), (2, .int p2), (3, .int y10), (4, .int (v4 + (2 : Int32)))]) [0, 1, 2, 3, 4] rfl ?_
          exact lp_o hf K
        · replace hf := if_f c8 hf
          refine k_iconst (pc' := 47) h dX5_isQueue_46 rfl ci_0 ?_
          exact k_zret h r dX5_isQueue_47 (by decide) (lp_o hf K)
noncomputable def f_X5_isQueue (k0 : Nat) (x1 : Int32) (st : St) : Option (Int32 × St) :=
  ((iter (fun v : Int32 × Int32 × St => l_X5_isQueue_5 k0 x1 v.1 v.2.1 v.2.2) fuel ((0 : Int32), (0 : Int32), st)).bind (fun q11 => Sum.elim (fun rs13 => some rs13) (fun v12 => (some ((1 : Int32), v12.2.2))) q11))
set_option maxHeartbeats 4000000 in
theorem c_X5_isQueue {G : GG} (l : Launch) (k0 : Nat) (x1 : Int32) (st : St) (hk0a : 2 ≤ k0) (hk0b : k0 < 8) (rr : Int32) (st' : St) (hf : f_X5_isQueue k0 x1 st = some (rr, st')) : MM l yX5_isQueue cX5_isQueue 5 (some .boolean) 1 (oC G) [.ref (al (oC G) 0), .ref (al (oC G) k0), .int x1] st (some (.int rr)) st' := by
  refine mk_MM (by decide +kernel) (Nat.le_of_ble_eq_true rfl) (fun X h r => ?_)
  refine k_sub (lv' := [(0, .ref (al (oC G) 0)), (1, .ref (al (oC G) k0)), (2, .int x1)]) [0, 1, 2] rfl ?_
  unfold f_X5_isQueue at hf
  refine k_iconst (pc' := 1) h dX5_isQueue_0 rfl ci_0 ?_
  refine k_istore_n (lv' := [(0, .ref (al (oC G) 0)), (1, .ref (al (oC G) k0)), (2, .int x1), (3, .int (0 : Int32))]) (pc' := 2) h dX5_isQueue_1 rfl rfl (Nat.le_of_ble_eq_true rfl) [1, 2, 3, 0] rfl ?_
  refine k_iconst (pc' := 3) h dX5_isQueue_2 rfl ci_0 ?_
  refine k_istore (lv' := [(0, .ref (al (oC G) 0)), (1, .ref (al (oC G) k0)), (2, .int x1), (3, .int (0 : Int32)), (4, .int (0 : Int32))]) (pc' := 5) h dX5_isQueue_3 rfl (Nat.le_of_ble_eq_true rfl) [1, 2, 3, 4, 0] rfl ?_
  obtain ⟨q11, hq11, hf⟩ := bd_s hf
  refine w_X5_isQueue_5 h r k0 x1 hk0a hk0b fuel (0 : Int32) (0 : Int32) st q11 hq11 (fun rs13 ers13 => ?_) (fun v12 ev12 => ?_)
  · subst ers13
    exact lf_i hf
  · subst ev12
    replace hf := sel_r hf
    refine k_iconst (pc' := 62) h dX5_isQueue_61 rfl ci_1 ?_
    exact k_zret h r dX5_isQueue_62 (by decide) (lf_i hf)
noncomputable def f_X5_queueRefusal (x0 : Int32) (st : St) : Option (Int32 × St) :=
  ((f_X5_isRow x0 st).bind (fun q1 => (if q1.1 = 0 then (some ((-1 : Int32), q1.2)) else (if (q1.2.1 15 2) = 0 then (some ((-4 : Int32), q1.2)) else (gd (inb x0 6) (if 0 ≤ (q1.2.1 8 x0.toNatClampNeg) then (gd (inb x0 6) (gd (nz (2 : Int32)) (if ((q1.2.1 8 x0.toNatClampNeg) - (q1.2.1 8 x0.toNatClampNeg) / (2 : Int32) * (2 : Int32)) = 0 then (gd (inb x0 6) (if (q1.2.1 8 x0.toNatClampNeg) ≤ (16 : Int32) then (gd (inb x0 6) (gd (inb x0 6) ((f_X5_isQueue (2 + x0.toNatClampNeg) (q1.2.1 8 x0.toNatClampNeg) q1.2).bind (fun q14 => (if q14.1 = 0 then ((f_X5_found (3 : Int32) q14.2).bind (fun q16 => (some (q16.1, q16.2)))) else (some ((0 : Int32), q14.2))))))) else ((f_X5_found (5 : Int32) q1.2).bind (fun q17 => (some (q17.1, q17.2)))))) else ((f_X5_found (5 : Int32) q1.2).bind (fun q9 => (some (q9.1, q9.2))))))) else ((f_X5_found (1 : Int32) q1.2).bind (fun q18 => (some (q18.1, q18.2))))))))))
set_option maxHeartbeats 4000000 in
theorem c_X5_queueRefusal {G : GG} (l : Launch) (x0 : Int32) (st : St)  (rr : Int32) (st' : St) (hf : f_X5_queueRefusal x0 st = some (rr, st')) : MM l yX5_queueRefusal cX5_queueRefusal 2 (some .int) 2 (oC G) [.ref (al (oC G) 0), .int x0] st (some (.int rr)) st' := by
  refine mk_MM (by decide +kernel) (Nat.le_of_ble_eq_true rfl) (fun X h r => ?_)
  refine k_sub (lv' := [(0, .ref (al (oC G) 0)), (1, .int x0)]) [0, 1] rfl ?_
  unfold f_X5_queueRefusal at hf
  refine k_iload_n (pc' := 1) h dX5_queueRefusal_0 rfl rfl 1 rfl ?_
  obtain ⟨q1, hq1, hf⟩ := bd_s hf
  refine k_callS (As := [.int x0]) (rest := []) (rv := some (.int q1.1)) (st' := q1.2) (stk' := [.int q1.1]) (pc' := 4) h dX5_queueRefusal_1 rfl ml_X5_64 wc_X5_isRow ws_X5_isRow ⟨Nat.le_of_ble_eq_true rfl, Nat.le_of_ble_eq_true rfl⟩ rfl rfl (Nat.le_of_ble_eq_true rfl) (fun l => c_X5_isRow l x0 st  _ _ hq1) rfl ?_
  refine k_if_ne (tgt := 9) (pc' := 7) h dX5_queueRefusal_4 rfl rfl (fun c2 => ?_) (fun c2 => ?_)
  · replace hf := if_f c2 hf
    refine k_aload_n (pc' := 10) h dX5_queueRefusal_9 rfl rfl 0 rfl ?_
    refine k_get (v := .ref (al (oC G) 15)) (pc' := 13) h dX5_queueRefusal_10 rfl bC_us fl_X5_29 rfl ?_
    refine k_get (v := .int (q1.2.1 15 2)) (pc' := 16) h dX5_queueRefusal_13 rfl bC_sh fl_X5_107 rfl ?_
    refine k_if_ne (tgt := 22) (pc' := 19) h dX5_queueRefusal_16 rfl rfl (fun c3 => ?_) (fun c3 => ?_)
    · replace hf := if_f c3 hf
      refine k_aload_n (pc' := 23) h dX5_queueRefusal_22 rfl rfl 0 rfl ?_
      refine k_get (v := .ref (al (oC G) 8)) (pc' := 26) h dX5_queueRefusal_23 rfl bC_us fl_X5_14 rfl ?_
      refine k_iload_n (pc' := 27) h dX5_queueRefusal_26 rfl rfl 1 rfl ?_
      have g4 := gd_1 hf
      replace hf := gd_2 hf
      refine k_iald (pc' := 28) h dX5_queueRefusal_27 rfl aC_rs g4 ?_
      refine k_if_ge (tgt := 37) (pc' := 31) h dX5_queueRefusal_28 rfl rfl (fun c5 => ?_) (fun c5 => ?_)
      · replace hf := if_t c5 hf
        refine k_aload_n (pc' := 38) h dX5_queueRefusal_37 rfl rfl 0 rfl ?_
        refine k_get (v := .ref (al (oC G) 8)) (pc' := 41) h dX5_queueRefusal_38 rfl bC_us fl_X5_14 rfl ?_
        refine k_iload_n (pc' := 42) h dX5_queueRefusal_41 rfl rfl 1 rfl ?_
        have g6 := gd_1 hf
        replace hf := gd_2 hf
        refine k_iald (pc' := 43) h dX5_queueRefusal_42 rfl aC_rs g6 ?_
        refine k_iconst (pc' := 44) h dX5_queueRefusal_43 rfl ci_2 ?_
        have g7 := gd_1 hf
        replace hf := gd_2 hf
        refine k_irem (pc' := 45) h dX5_queueRefusal_44 rfl (nz_n g7) ?_
        refine k_if_ne (tgt := 59) (pc' := 48) h dX5_queueRefusal_45 rfl rfl (fun c8 => ?_) (fun c8 => ?_)
        · replace hf := if_f c8 hf
          refine k_aload_n (pc' := 60) h dX5_queueRefusal_59 rfl rfl 0 rfl ?_
          refine k_iconst (pc' := 61) h dX5_queueRefusal_60 rfl ci_5 ?_
          obtain ⟨q9, hq9, hf⟩ := bd_s hf
          refine k_callV (As := [.int (5 : Int32)]) (rest := []) (rv := some (.int q9.1)) (st' := q9.2) (stk' := [.int q9.1]) (pc' := 64) h dX5_queueRefusal_61 rfl ml_X5_68 wc_X5_found wi_X5_found ⟨Nat.le_of_ble_eq_true rfl, Nat.le_of_ble_eq_true rfl⟩ bC_us rfl rfl rfl rfl (Nat.le_of_ble_eq_true rfl) (fun l => c_X5_found l (5 : Int32) q1.2  _ _ hq9) rfl ?_
          exact k_iret h r dX5_queueRefusal_64 (lf_i hf)
        · replace hf := if_t c8 hf
          refine k_aload_n (pc' := 49) h dX5_queueRefusal_48 rfl rfl 0 rfl ?_
          refine k_get (v := .ref (al (oC G) 8)) (pc' := 52) h dX5_queueRefusal_49 rfl bC_us fl_X5_14 rfl ?_
          refine k_iload_n (pc' := 53) h dX5_queueRefusal_52 rfl rfl 1 rfl ?_
          have g10 := gd_1 hf
          replace hf := gd_2 hf
          refine k_iald (pc' := 54) h dX5_queueRefusal_53 rfl aC_rs g10 ?_
          refine k_bipush (pc' := 56) h dX5_queueRefusal_54 rfl cb_16 ?_
          refine k_icmp_le (tgt := 65) (pc' := 59) h dX5_queueRefusal_56 rfl rfl (fun c11 => ?_) (fun c11 => ?_)
          · replace hf := if_t c11 hf
            refine k_aload_n (pc' := 66) h dX5_queueRefusal_65 rfl rfl 0 rfl ?_
            refine k_aload_n (pc' := 67) h dX5_queueRefusal_66 rfl rfl 0 rfl ?_
            refine k_get (v := .ref (al (oC G) 1)) (pc' := 70) h dX5_queueRefusal_67 rfl bC_us fl_X5_11 rfl ?_
            refine k_iload_n (pc' := 71) h dX5_queueRefusal_70 rfl rfl 1 rfl ?_
            have g12 := gd_1 hf
            replace hf := gd_2 hf
            refine k_aald (tt := .array .int) (pc' := 72) h dX5_queueRefusal_71 rfl rC_rows rfl rfl g12 ?_
            refine k_aload_n (pc' := 73) h dX5_queueRefusal_72 rfl rfl 0 rfl ?_
            refine k_get (v := .ref (al (oC G) 8)) (pc' := 76) h dX5_queueRefusal_73 rfl bC_us fl_X5_14 rfl ?_
            refine k_iload_n (pc' := 77) h dX5_queueRefusal_76 rfl rfl 1 rfl ?_
            have g13 := gd_1 hf
            replace hf := gd_2 hf
            refine k_iald (pc' := 78) h dX5_queueRefusal_77 rfl aC_rs g13 ?_
            obtain ⟨q14, hq14, hf⟩ := bd_s hf
            refine k_callV (As := [.ref (al (oC G) (2 + x0.toNatClampNeg)), .int (q1.2.1 8 x0.toNatClampNeg)]) (rest := []) (rv := some (.int q14.1)) (st' := q14.2) (stk' := [.int q14.1]) (pc' := 81) h dX5_queueRefusal_78 rfl ml_X5_297 wc_X5_isQueue wi_X5_isQueue ⟨Nat.le_of_ble_eq_true rfl, Nat.le_of_ble_eq_true rfl⟩ bC_us rfl rfl rfl rfl (Nat.le_of_ble_eq_true rfl) (fun l => c_X5_isQueue l (2 + x0.toNatClampNeg) (q1.2.1 8 x0.toNatClampNeg) q1.2 (Nat.le_add_right 2 x0.toNatClampNeg) (Nat.add_lt_add_left (inb_lt g12) 2) _ _ hq14) rfl ?_
            refine k_if_eq (tgt := 88) (pc' := 84) h dX5_queueRefusal_81 rfl rfl (fun c15 => ?_) (fun c15 => ?_)
            · replace hf := if_t c15 hf
              refine k_aload_n (pc' := 89) h dX5_queueRefusal_88 rfl rfl 0 rfl ?_
              refine k_iconst (pc' := 90) h dX5_queueRefusal_89 rfl ci_3 ?_
              obtain ⟨q16, hq16, hf⟩ := bd_s hf
              refine k_callV (As := [.int (3 : Int32)]) (rest := []) (rv := some (.int q16.1)) (st' := q16.2) (stk' := [.int q16.1]) (pc' := 93) h dX5_queueRefusal_90 rfl ml_X5_68 wc_X5_found wi_X5_found ⟨Nat.le_of_ble_eq_true rfl, Nat.le_of_ble_eq_true rfl⟩ bC_us rfl rfl rfl rfl (Nat.le_of_ble_eq_true rfl) (fun l => c_X5_found l (3 : Int32) q14.2  _ _ hq16) rfl ?_
              exact k_iret h r dX5_queueRefusal_93 (lf_i hf)
            · replace hf := if_f c15 hf
              refine k_iconst (pc' := 85) h dX5_queueRefusal_84 rfl ci_0 ?_
              refine k_goto (tgt := 93) h dX5_queueRefusal_85 rfl ?_
              exact k_iret h r dX5_queueRefusal_93 (lf_i hf)
          · replace hf := if_f c11 hf
            refine k_aload_n (pc' := 60) h dX5_queueRefusal_59 rfl rfl 0 rfl ?_
            refine k_iconst (pc' := 61) h dX5_queueRefusal_60 rfl ci_5 ?_
            obtain ⟨q17, hq17, hf⟩ := bd_s hf
            refine k_callV (As := [.int (5 : Int32)]) (rest := []) (rv := some (.int q17.1)) (st' := q17.2) (stk' := [.int q17.1]) (pc' := 64) h dX5_queueRefusal_61 rfl ml_X5_68 wc_X5_found wi_X5_found ⟨Nat.le_of_ble_eq_true rfl, Nat.le_of_ble_eq_true rfl⟩ bC_us rfl rfl rfl rfl (Nat.le_of_ble_eq_true rfl) (fun l => c_X5_found l (5 : Int32) q1.2  _ _ hq17) rfl ?_
            exact k_iret h r dX5_queueRefusal_64 (lf_i hf)
      · replace hf := if_f c5 hf
        refine k_aload_n (pc' := 32) h dX5_queueRefusal_31 rfl rfl 0 rfl ?_
        refine k_iconst (pc' := 33) h dX5_queueRefusal_32 rfl ci_1 ?_
        obtain ⟨q18, hq18, hf⟩ := bd_s hf
        refine k_callV (As := [.int (1 : Int32)]) (rest := []) (rv := some (.int q18.1)) (st' := q18.2) (stk' := [.int q18.1]) (pc' := 36) h dX5_queueRefusal_33 rfl ml_X5_68 wc_X5_found wi_X5_found ⟨Nat.le_of_ble_eq_true rfl, Nat.le_of_ble_eq_true rfl⟩ bC_us rfl rfl rfl rfl (Nat.le_of_ble_eq_true rfl) (fun l => c_X5_found l (1 : Int32) q1.2  _ _ hq18) rfl ?_
        exact k_iret h r dX5_queueRefusal_36 (lf_i hf)
    · replace hf := if_t c3 hf
      refine k_bipush (pc' := 21) h dX5_queueRefusal_19 rfl cb_m4 ?_
      exact k_iret h r dX5_queueRefusal_21 (lf_i hf)
  · replace hf := if_t c2 hf
    refine k_iconst (pc' := 8) h dX5_queueRefusal_7 rfl ci_m1 ?_
    exact k_iret h r dX5_queueRefusal_8 (lf_i hf)
noncomputable def f_X5_queue (x0 : Int32) (st : St) : Option (Int32 × St) :=
  ((f_X5_queueRefusal x0 st).bind (fun q1 => (if q1.1 = 0 then (gd (inb x0 6) (gd (inb x0 6) ((f_X1_walk (2 + x0.toNatClampNeg) (q1.2.1 8 x0.toNatClampNeg) (9999 : Int32) q1.2).bind (fun q5 => (ls (sA q5 0 (upd (q5.1 0) 9 (q5.1 42 0))) (fun s6 => (some (s6.1 42 1, s6)))))))) else (some (q1.1, q1.2)))))
set_option maxHeartbeats 4000000 in
theorem c_X5_queue {G : GG} (l : Launch) (x0 : Int32) (st : St)  (rr : Int32) (st' : St) (hf : f_X5_queue x0 st = some (rr, st')) : MM l yX5_queue cX5_queue 3 (some .int) 3 (oC G) [.ref (al (oC G) 0), .int x0] st (some (.int rr)) st' := by
  refine mk_MM (by decide +kernel) (Nat.le_of_ble_eq_true rfl) (fun X h r => ?_)
  refine k_sub (lv' := [(0, .ref (al (oC G) 0)), (1, .int x0)]) [0, 1] rfl ?_
  unfold f_X5_queue at hf
  refine k_aload_n (pc' := 1) h dX5_queue_0 rfl rfl 0 rfl ?_
  refine k_iload_n (pc' := 2) h dX5_queue_1 rfl rfl 1 rfl ?_
  obtain ⟨q1, hq1, hf⟩ := bd_s hf
  refine k_callV (As := [.int x0]) (rest := []) (rv := some (.int q1.1)) (st' := q1.2) (stk' := [.int q1.1]) (pc' := 5) h dX5_queue_2 rfl ml_X5_229 wc_X5_queueRefusal wi_X5_queueRefusal ⟨Nat.le_of_ble_eq_true rfl, Nat.le_of_ble_eq_true rfl⟩ bC_us rfl rfl rfl rfl (Nat.le_of_ble_eq_true rfl) (fun l => c_X5_queueRefusal l x0 st  _ _ hq1) rfl ?_
  refine k_istore_n (lv' := [(0, .ref (al (oC G) 0)), (1, .int x0), (2, .int q1.1)]) (pc' := 6) h dX5_queue_5 rfl rfl (Nat.le_of_ble_eq_true rfl) [1, 2, 0] rfl ?_
  refine k_iload_n (pc' := 7) h dX5_queue_6 rfl rfl 2 rfl ?_
  refine k_if_eq (tgt := 12) (pc' := 10) h dX5_queue_7 rfl rfl (fun c2 => ?_) (fun c2 => ?_)
  · replace hf := if_t c2 hf
    refine k_aload_n (pc' := 13) h dX5_queue_12 rfl rfl 0 rfl ?_
    refine k_get (v := .ref (al (oC G) 42)) (pc' := 16) h dX5_queue_13 rfl bC_us fl_X5_42 rfl ?_
    refine k_aload_n (pc' := 17) h dX5_queue_16 rfl rfl 0 rfl ?_
    refine k_get (v := .ref (al (oC G) 15)) (pc' := 20) h dX5_queue_17 rfl bC_us fl_X5_29 rfl ?_
    refine k_get (v := .ref (al (oC G) 16)) (pc' := 23) h dX5_queue_20 rfl bC_sh fl_X5_116 rfl ?_
    refine k_aload_n (pc' := 24) h dX5_queue_23 rfl rfl 0 rfl ?_
    refine k_get (v := .ref (al (oC G) 1)) (pc' := 27) h dX5_queue_24 rfl bC_us fl_X5_11 rfl ?_
    refine k_iload_n (pc' := 28) h dX5_queue_27 rfl rfl 1 rfl ?_
    have g3 := gd_1 hf
    replace hf := gd_2 hf
    refine k_aald (tt := .array .int) (pc' := 29) h dX5_queue_28 rfl rC_rows rfl rfl g3 ?_
    refine k_aload_n (pc' := 30) h dX5_queue_29 rfl rfl 0 rfl ?_
    refine k_get (v := .ref (al (oC G) 8)) (pc' := 33) h dX5_queue_30 rfl bC_us fl_X5_14 rfl ?_
    refine k_iload_n (pc' := 34) h dX5_queue_33 rfl rfl 1 rfl ?_
    have g4 := gd_1 hf
    replace hf := gd_2 hf
    refine k_iald (pc' := 35) h dX5_queue_34 rfl aC_rs g4 ?_
    refine k_sipush (pc' := 38) h dX5_queue_35 rfl cs_9999 ?_
    obtain ⟨q5, hq5, hf⟩ := bd_s hf
    refine k_callV (As := [.ref (al (oC G) 16), .ref (al (oC G) (2 + x0.toNatClampNeg)), .int (q1.2.1 8 x0.toNatClampNeg), .int (9999 : Int32)]) (rest := []) (rv := none) (st' := q5) (stk' := []) (pc' := 41) h dX5_queue_38 rfl ml_X5_232 wc_X1_walk wi_X1_walk ⟨Nat.le_of_ble_eq_true rfl, Nat.le_of_ble_eq_true rfl⟩ bC_li rfl rfl rfl rfl (Nat.le_of_ble_eq_true rfl) (fun l => c_X1_walk l (2 + x0.toNatClampNeg) (q1.2.1 8 x0.toNatClampNeg) (9999 : Int32) q1.2 (Nat.le_add_right 2 x0.toNatClampNeg) (Nat.add_lt_add_left (inb_lt g3) 2) _ hq5) rfl ?_
    refine k_aload_n (pc' := 42) h dX5_queue_41 rfl rfl 0 rfl ?_
    refine k_aload_n (pc' := 43) h dX5_queue_42 rfl rfl 0 rfl ?_
    refine k_get (v := .ref (al (oC G) 42)) (pc' := 46) h dX5_queue_43 rfl bC_us fl_X5_42 rfl ?_
    refine k_get (v := .int (q5.1 42 0)) (pc' := 49) h dX5_queue_46 rfl bC_li fl_X5_236 rfl ?_
    refine k_put (pc' := 52) h dX5_queue_49 rfl bC_us fp_X5_53 sf_us_9 sj_us_9 ?_
    obtain ⟨s6, hs6, hf⟩ := ls_s hf
    refine k_st hs6 ?_
    refine k_aload_n (pc' := 53) h dX5_queue_52 rfl rfl 0 rfl ?_
    refine k_get (v := .ref (al (oC G) 42)) (pc' := 56) h dX5_queue_53 rfl bC_us fl_X5_42 rfl ?_
    refine k_get (v := .int (s6.1 42 1)) (pc' := 59) h dX5_queue_56 rfl bC_li fl_X5_239 rfl ?_
    exact k_iret h r dX5_queue_59 (lf_i hf)
  · replace hf := if_f c2 hf
    refine k_iload_n (pc' := 11) h dX5_queue_10 rfl rfl 2 rfl ?_
    exact k_iret h r dX5_queue_11 (lf_i hf)
noncomputable def f_X5_by (x0 : Int32) (x1 : Int32) (st : St) : Option (Int32 × St) :=
  (if x1 < 0 then (some ((-1 : Int32), st)) else (if x1 ≤ (9999 : Int32) then ((f_X5_queueRefusal x0 st).bind (fun q3 => (if q3.1 = 0 then (gd (inb x0 6) (gd (inb x0 6) ((f_X1_walk (2 + x0.toNatClampNeg) (q3.2.1 8 x0.toNatClampNeg) x1 q3.2).bind (fun q7 => (some (q7.1 42 2, q7)))))) else (some (q3.1, q3.2))))) else (some ((-1 : Int32), st))))
set_option maxHeartbeats 4000000 in
theorem c_X5_by {G : GG} (l : Launch) (x0 : Int32) (x1 : Int32) (st : St)  (rr : Int32) (st' : St) (hf : f_X5_by x0 x1 st = some (rr, st')) : MM l yX5_by cX5_by 4 (some .int) 3 (oC G) [.ref (al (oC G) 0), .int x0, .int x1] st (some (.int rr)) st' := by
  refine mk_MM (by decide +kernel) (Nat.le_of_ble_eq_true rfl) (fun X h r => ?_)
  refine k_sub (lv' := [(0, .ref (al (oC G) 0)), (1, .int x0), (2, .int x1)]) [0, 1, 2] rfl ?_
  unfold f_X5_by at hf
  refine k_iload_n (pc' := 1) h dX5_by_0 rfl rfl 2 rfl ?_
  refine k_if_lt (tgt := 11) (pc' := 4) h dX5_by_1 rfl rfl (fun c1 => ?_) (fun c1 => ?_)
  · replace hf := if_t c1 hf
    refine k_iconst (pc' := 12) h dX5_by_11 rfl ci_m1 ?_
    exact k_iret h r dX5_by_12 (lf_i hf)
  · replace hf := if_f c1 hf
    refine k_iload_n (pc' := 5) h dX5_by_4 rfl rfl 2 rfl ?_
    refine k_sipush (pc' := 8) h dX5_by_5 rfl cs_9999 ?_
    refine k_icmp_le (tgt := 13) (pc' := 11) h dX5_by_8 rfl rfl (fun c2 => ?_) (fun c2 => ?_)
    · replace hf := if_t c2 hf
      refine k_aload_n (pc' := 14) h dX5_by_13 rfl rfl 0 rfl ?_
      refine k_iload_n (pc' := 15) h dX5_by_14 rfl rfl 1 rfl ?_
      obtain ⟨q3, hq3, hf⟩ := bd_s hf
      refine k_callV (As := [.int x0]) (rest := []) (rv := some (.int q3.1)) (st' := q3.2) (stk' := [.int q3.1]) (pc' := 18) h dX5_by_15 rfl ml_X5_229 wc_X5_queueRefusal wi_X5_queueRefusal ⟨Nat.le_of_ble_eq_true rfl, Nat.le_of_ble_eq_true rfl⟩ bC_us rfl rfl rfl rfl (Nat.le_of_ble_eq_true rfl) (fun l => c_X5_queueRefusal l x0 st  _ _ hq3) rfl ?_
      refine k_istore_n (lv' := [(0, .ref (al (oC G) 0)), (1, .int x0), (2, .int x1), (3, .int q3.1)]) (pc' := 19) h dX5_by_18 rfl rfl (Nat.le_of_ble_eq_true rfl) [1, 2, 3, 0] rfl ?_
      refine k_iload_n (pc' := 20) h dX5_by_19 rfl rfl 3 rfl ?_
      refine k_if_eq (tgt := 25) (pc' := 23) h dX5_by_20 rfl rfl (fun c4 => ?_) (fun c4 => ?_)
      · replace hf := if_t c4 hf
        refine k_aload_n (pc' := 26) h dX5_by_25 rfl rfl 0 rfl ?_
        refine k_get (v := .ref (al (oC G) 42)) (pc' := 29) h dX5_by_26 rfl bC_us fl_X5_42 rfl ?_
        refine k_aload_n (pc' := 30) h dX5_by_29 rfl rfl 0 rfl ?_
        refine k_get (v := .ref (al (oC G) 15)) (pc' := 33) h dX5_by_30 rfl bC_us fl_X5_29 rfl ?_
        refine k_get (v := .ref (al (oC G) 16)) (pc' := 36) h dX5_by_33 rfl bC_sh fl_X5_116 rfl ?_
        refine k_aload_n (pc' := 37) h dX5_by_36 rfl rfl 0 rfl ?_
        refine k_get (v := .ref (al (oC G) 1)) (pc' := 40) h dX5_by_37 rfl bC_us fl_X5_11 rfl ?_
        refine k_iload_n (pc' := 41) h dX5_by_40 rfl rfl 1 rfl ?_
        have g5 := gd_1 hf
        replace hf := gd_2 hf
        refine k_aald (tt := .array .int) (pc' := 42) h dX5_by_41 rfl rC_rows rfl rfl g5 ?_
        refine k_aload_n (pc' := 43) h dX5_by_42 rfl rfl 0 rfl ?_
        refine k_get (v := .ref (al (oC G) 8)) (pc' := 46) h dX5_by_43 rfl bC_us fl_X5_14 rfl ?_
        refine k_iload_n (pc' := 47) h dX5_by_46 rfl rfl 1 rfl ?_
        have g6 := gd_1 hf
        replace hf := gd_2 hf
        refine k_iald (pc' := 48) h dX5_by_47 rfl aC_rs g6 ?_
        refine k_iload_n (pc' := 49) h dX5_by_48 rfl rfl 2 rfl ?_
        obtain ⟨q7, hq7, hf⟩ := bd_s hf
        refine k_callV (As := [.ref (al (oC G) 16), .ref (al (oC G) (2 + x0.toNatClampNeg)), .int (q3.2.1 8 x0.toNatClampNeg), .int x1]) (rest := []) (rv := none) (st' := q7) (stk' := []) (pc' := 52) h dX5_by_49 rfl ml_X5_232 wc_X1_walk wi_X1_walk ⟨Nat.le_of_ble_eq_true rfl, Nat.le_of_ble_eq_true rfl⟩ bC_li rfl rfl rfl rfl (Nat.le_of_ble_eq_true rfl) (fun l => c_X1_walk l (2 + x0.toNatClampNeg) (q3.2.1 8 x0.toNatClampNeg) x1 q3.2 (Nat.le_add_right 2 x0.toNatClampNeg) (Nat.add_lt_add_left (inb_lt g5) 2) _ hq7) rfl ?_
        refine k_aload_n (pc' := 53) h dX5_by_52 rfl rfl 0 rfl ?_
        refine k_get (v := .ref (al (oC G) 42)) (pc' := 56) h dX5_by_53 rfl bC_us fl_X5_42 rfl ?_
        refine k_get (v := .int (q7.1 42 2)) (pc' := 59) h dX5_by_56 rfl bC_li fl_X5_242 rfl ?_
        exact k_iret h r dX5_by_59 (lf_i hf)
      · replace hf := if_f c4 hf
        refine k_iload_n (pc' := 24) h dX5_by_23 rfl rfl 3 rfl ?_
        exact k_iret h r dX5_by_24 (lf_i hf)
    · replace hf := if_f c2 hf
      refine k_iconst (pc' := 12) h dX5_by_11 rfl ci_m1 ?_
      exact k_iret h r dX5_by_12 (lf_i hf)
