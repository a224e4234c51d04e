noncomputable def f_X3_isIn (x0 : Int32) (x1 : Int32) (st : St) : Option (Int32 × St) :=
  (if ((x0 >>> (x1 &&& 31)) &&& (1 : Int32)) = (1 : Int32) then (some ((1 : Int32), st)) else (some ((0 : Int32), st)))
set_option maxHeartbeats 4000000 in
theorem c_X3_isIn {G : GG} (l : Launch) (x0 : Int32) (x1 : Int32) (st : St)  (rr : Int32) (st' : St) (hf : f_X3_isIn x0 x1 st = some (rr, st')) : MM l yX3_isIn cX3_isIn 2 (some .boolean) 0 (oC G) [.int x0, .int x1] st (some (.int rr)) st' := by
  refine mk_MM (by decide +kernel) (Nat.le_of_ble_eq_true rfl) (fun X h r => ?_)
  refine k_sub (lv' := [(0, .int x0), (1, .int x1)]) [0, 1] rfl ?_
  unfold f_X3_isIn at hf
  refine k_iload_n (pc' := 1) h dX3_isIn_0 rfl rfl 0 rfl ?_
  refine k_iload_n (pc' := 2) h dX3_isIn_1 rfl rfl 1 rfl ?_
  refine k_ishr (pc' := 3) h dX3_isIn_2 rfl ?_
  refine k_iconst (pc' := 4) h dX3_isIn_3 rfl ci_1 ?_
  refine k_iand (pc' := 5) h dX3_isIn_4 rfl ?_
  refine k_iconst (pc' := 6) h dX3_isIn_5 rfl ci_1 ?_
  refine k_icmp_ne (tgt := 13) (pc' := 9) h dX3_isIn_6 rfl rfl (fun c1 => ?_) (fun c1 => ?_)
  · replace hf := if_f c1 hf
    refine k_iconst (pc' := 14) h dX3_isIn_13 rfl ci_0 ?_
    exact k_zret h r dX3_isIn_14 (by decide) (lf_i hf)
  · replace hf := if_t c1 hf
    refine k_iconst (pc' := 10) h dX3_isIn_9 rfl ci_1 ?_
    refine k_goto (tgt := 14) h dX3_isIn_10 rfl ?_
    exact k_zret h r dX3_isIn_14 (by decide) (lf_i hf)
noncomputable def l_X3_souredBy_5 (p1 : Int32) (p2 : Int32) (v3 : Int32) (v4 : Int32) (st : St) : Option ((Int32 × Int32 × St) ⊕ (Int32 × Int32 × St)) :=
  (if (st.1 15 2) ≤ v4 then (some (.inr (v3, v4, st))) else ((f_X3_isIn p1 v4 st).bind (fun q2 => (if q2.1 = 0 then (some (.inl (v3, v4 + (1 : Int32), q2.2))) else (gd (inb v4 6) ((f_X2_isSouredBy (17 + v4.toNatClampNeg) p2 (q2.2.1 15 3) q2.2).bind (fun q5 => (if q5.1 = 0 then (some (.inl (v3, v4 + (1 : Int32), q5.2))) else (lw (v3 ||| ((1 : Int32) <<< (v4 &&& 31))) (fun y7 => (some (.inl (y7, v4 + (1 : Int32), q5.2)))))))))))))
set_option maxHeartbeats 4000000 in
theorem w_X3_souredBy_5 {G : GG} {X : Cx} (h : Ok X (oC G) cX3_souredBy RX3 5 (RM 3))  (p1 : Int32) (p2 : Int32)  (n : Nat) (v3 : Int32) (v4 : Int32) (st : St) (q : Int32 × Int32 × St) (hq : iter (fun v : Int32 × Int32 × St => l_X3_souredBy_5 p1 p2 v.1 v.2.1 v.2.2) n (v3, v4, st) = some q) (kx : Wk X (oC G) 5 q.2.2 54 [(0, .ref (al (oC G) 15)), (1, .int p1), (2, .int p2), (3, .int q.1), (4, .int q.2.1)] []) : Wk X (oC G) 5 st 5 [(0, .ref (al (oC G) 15)), (1, .int p1), (2, .int p2), (3, .int v3), (4, .int v4)] [] := by
  refine iter_rule (hd := (fun v : Int32 × Int32 × St => Wk X (oC G) 5 v.2.2 5 [(0, .ref (al (oC G) 15)), (1, .int p1), (2, .int p2), (3, .int v.1), (4, .int v.2.1)] [])) (ex := (fun v : Int32 × Int32 × St => Wk X (oC G) 5 v.2.2 54 [(0, .ref (al (oC G) 15)), (1, .int p1), (2, .int p2), (3, .int v.1), (4, .int v.2.1)] [])) ?_ n (v3, v4, st) q hq kx
  rintro ⟨v3, v4, st⟩ oo hbv K
  show Wk X (oC G) 5 st 5 [(0, .ref (al (oC G) 15)), (1, .int p1), (2, .int p2), (3, .int v3), (4, .int v4)] []
  have hf : l_X3_souredBy_5 p1 p2 v3 v4 st = some oo := hbv
  unfold l_X3_souredBy_5 at hf
  refine k_iload (pc' := 7) h dX3_souredBy_5 rfl 4 rfl ?_
  refine k_aload_n (pc' := 8) h dX3_souredBy_7 rfl rfl 0 rfl ?_
  refine k_get (v := .int (st.1 15 2)) (pc' := 11) h dX3_souredBy_8 rfl bC_sh fl_X3_25 rfl ?_
  refine k_icmp_ge (tgt := 54) (pc' := 14) h dX3_souredBy_11 rfl rfl (fun c1 => ?_) (fun c1 => ?_)
  · replace hf := if_t c1 hf
    refine k_sub (lv' := [(0, .ref (al (oC G) 15)), (1, .int p1), (2, .int p2), (3, .int v3), (4, .int v4)]) [0, 1, 2, 3, 4] rfl ?_
    exact lp_o hf K
  · replace hf := if_f c1 hf
    refine k_iload_n (pc' := 15) h dX3_souredBy_14 rfl rfl 1 rfl ?_
    refine k_iload (pc' := 17) h dX3_souredBy_15 rfl 4 rfl ?_
    obtain ⟨q2, hq2, hf⟩ := bd_s hf
    refine k_callS (As := [.int p1, .int v4]) (rest := []) (rv := some (.int q2.1)) (st' := q2.2) (stk' := [.int q2.1]) (pc' := 20) h dX3_souredBy_17 rfl ml_X3_102 wc_X3_isIn ws_X3_isIn ⟨Nat.le_of_ble_eq_true rfl, Nat.le_of_ble_eq_true rfl⟩ rfl rfl (Nat.le_of_ble_eq_true rfl) (fun l => c_X3_isIn l p1 v4 st  _ _ hq2) rfl ?_
    refine k_if_eq (tgt := 48) (pc' := 23) h dX3_souredBy_20 rfl rfl (fun c3 => ?_) (fun c3 => ?_)
    · replace hf := if_t c3 hf
      refine k_iinc (lv' := [(0, .ref (al (oC G) 15)), (1, .int p1), (2, .int p2), (3, .int v3), (4, .int (v4 + (1 : Int32)))]) (pc' := 51) h dX3_souredBy_48 rfl 4 rfl (congrArg (fun z => v4 + z) ci_1) (Nat.le_of_ble_eq_true rfl) [1, 2, 3, 4, 0] rfl ?_
      refine k_goto (tgt := 5) h dX3_souredBy_51 rfl ?_
      refine k_sub (lv' := [(0, .ref (al (oC G) 15)), (1, .int p1), (2, .int p2), (3, .int v3), (4, .int (v4 + (1 : Int32)))]) [0, 1, 2, 3, 4] rfl ?_
      exact lp_o hf K
    · replace hf := if_f c3 hf
      refine k_aload_n (pc' := 24) h dX3_souredBy_23 rfl rfl 0 rfl ?_
      refine k_get (v := .ref (al (oC G) 16)) (pc' := 27) h dX3_souredBy_24 rfl bC_sh fl_X3_11 rfl ?_
      refine k_iload (pc' := 29) h dX3_souredBy_27 rfl 4 rfl ?_
      have g4 := gd_1 hf
      replace hf := gd_2 hf
      refine k_aald (tt := .object "TheUsual$Regular") (pc' := 30) h dX3_souredBy_29 rfl rC_regs rfl rfl g4 ?_
      refine k_iload_n (pc' := 31) h dX3_souredBy_30 rfl rfl 2 rfl ?_
      refine k_aload_n (pc' := 32) h dX3_souredBy_31 rfl rfl 0 rfl ?_
      refine k_get (v := .int (q2.2.1 15 3)) (pc' := 35) h dX3_souredBy_32 rfl bC_sh fl_X3_37 rfl ?_
      obtain ⟨q5, hq5, hf⟩ := bd_s hf
      refine k_callV (As := [.int p2, .int (q2.2.1 15 3)]) (rest := []) (rv := some (.int q5.1)) (st' := q5.2) (stk' := [.int q5.1]) (pc' := 38) h dX3_souredBy_35 rfl ml_X3_73 wc_X2_isSouredBy wi_X2_isSouredBy ⟨Nat.le_of_ble_eq_true rfl, Nat.le_of_ble_eq_true rfl⟩ (bC_re (Nat.le_add_right 17 v4.toNatClampNeg) (Nat.add_lt_add_left (inb_lt g4) 17)) rfl rfl rfl rfl (Nat.le_of_ble_eq_true rfl) (fun l => c_X2_isSouredBy l (17 + v4.toNatClampNeg) p2 (q2.2.1 15 3) q2.2 (Nat.le_add_right 17 v4.toNatClampNeg) (Nat.add_lt_add_left (inb_lt g4) 17) _ _ hq5) rfl ?_
      refine k_if_eq (tgt := 48) (pc' := 41) h dX3_souredBy_38 rfl rfl (fun c6 => ?_) (fun c6 => ?_)
      · replace hf := if_t c6 hf
        refine k_iinc (lv' := [(0, .ref (al (oC G) 15)), (1, .int p1), (2, .int p2), (3, .int v3), (4, .int (v4 + (1 : Int32)))]) (pc' := 51) h dX3_souredBy_48 rfl 4 rfl (congrArg (fun z => v4 + z) ci_1) (Nat.le_of_ble_eq_true rfl) [1, 2, 3, 4, 0] rfl ?_
        refine k_goto (tgt := 5) h dX3_souredBy_51 rfl ?_
        refine k_sub (lv' := [(0, .ref (al (oC G) 15)), (1, .int p1), (2, .int p2), (3, .int v3), (4, .int (v4 + (1 : Int32)))]) [0, 1, 2, 3, 4] rfl ?_
        exact lp_o hf K
      · replace hf := if_f c6 hf
        refine k_iload_n (pc' := 42) h dX3_souredBy_41 rfl rfl 3 rfl ?_
        refine k_iconst (pc' := 43) h dX3_souredBy_42 rfl ci_1 ?_
        refine k_iload (pc' := 45) h dX3_souredBy_43 rfl 4 rfl ?_
        refine k_ishl (pc' := 46) h dX3_souredBy_45 rfl ?_
        refine k_ior (pc' := 47) h dX3_souredBy_46 rfl ?_
        obtain ⟨y7, hy7, hf⟩ := lw_s hf
        refine k_eqi hy7 ?_
        refine k_istore_n (lv' := [(0, .ref (al (oC G) 15)), (1, .int p1), (2, .int p2), (3, .int y7), (4, .int v4)]) (pc' := 48) h dX3_souredBy_47 rfl rfl (Nat.le_of_ble_eq_true rfl) [1, 2, 3, 0, 4] rfl ?_
        refine k_iinc (lv' := [(0, .ref (al (oC G) 15)), (1, .int p1), (2, .int p2), (3, .int y7), (4, .int (v4 + (1 : Int32)))]) (pc' := 51) h dX3_souredBy_48 rfl 4 rfl (congrArg (fun z => v4 + z) ci_1) (Nat.le_of_ble_eq_true rfl) [1, 2, 3, 4, 0] rfl ?_
        refine k_goto (tgt := 5) h dX3_souredBy_51 rfl ?_
        refine k_sub (lv' := [(0, .ref (al (oC G) 15)), (1, .int p1), (2, .int p2), (3, .int y7), (4, .int (v4 + (1 : Int32)))]) [0, 1, 2, 3, 4] rfl ?_
        exact lp_o hf K
noncomputable def f_X3_souredBy (x0 : Int32) (x1 : Int32) (st : St) : Option (Int32 × St) :=
  ((iter (fun v : Int32 × Int32 × St => l_X3_souredBy_5 x0 x1 v.1 v.2.1 v.2.2) fuel ((0 : Int32), (0 : Int32), st)).bind (fun q8 => (some (q8.1, q8.2.2))))
set_option maxHeartbeats 4000000 in
theorem c_X3_souredBy {G : GG} (l : Launch) (x0 : Int32) (x1 : Int32) (st : St)  (rr : Int32) (st' : St) (hf : f_X3_souredBy x0 x1 st = some (rr, st')) : MM l yX3_souredBy cX3_souredBy 5 (some .int) 3 (oC G) [.ref (al (oC G) 15), .int x0, .int x1] st (some (.int rr)) st' := by
  refine mk_MM (by decide +kernel) (Nat.le_of_ble_eq_true rfl) (fun X h r => ?_)
  refine k_sub (lv' := [(0, .ref (al (oC G) 15)), (1, .int x0), (2, .int x1)]) [0, 1, 2] rfl ?_
  unfold f_X3_souredBy at hf
  refine k_iconst (pc' := 1) h dX3_souredBy_0 rfl ci_0 ?_
  refine k_istore_n (lv' := [(0, .ref (al (oC G) 15)), (1, .int x0), (2, .int x1), (3, .int (0 : Int32))]) (pc' := 2) h dX3_souredBy_1 rfl rfl (Nat.le_of_ble_eq_true rfl) [1, 2, 3, 0] rfl ?_
  refine k_iconst (pc' := 3) h dX3_souredBy_2 rfl ci_0 ?_
  refine k_istore (lv' := [(0, .ref (al (oC G) 15)), (1, .int x0), (2, .int x1), (3, .int (0 : Int32)), (4, .int (0 : Int32))]) (pc' := 5) h dX3_souredBy_3 rfl (Nat.le_of_ble_eq_true rfl) [1, 2, 3, 4, 0] rfl ?_
  obtain ⟨q8, hq8, hf⟩ := bd_s hf
  refine w_X3_souredBy_5 h x0 x1  fuel (0 : Int32) (0 : Int32) st q8 hq8 ?_
  refine k_iload_n (pc' := 55) h dX3_souredBy_54 rfl rfl 3 rfl ?_
  exact k_iret h r dX3_souredBy_55 (lf_i hf)
noncomputable def l_X3_comingsOf_4 (p1 : Int32) (v2 : Int32) (v3 : Int32) (st : St) : Option ((Int32 × Int32 × St) ⊕ (Int32 × Int32 × St)) :=
  (if (st.1 15 2) ≤ v3 then (some (.inr (v2, v3, st))) else ((f_X3_isIn p1 v3 st).bind (fun q2 => (if q2.1 = 0 then (some (.inl (v2, v3 + (1 : Int32), q2.2))) else (gd (inb v3 6) (lw (v2 + (q2.2.1 (17 + v3.toNatClampNeg) 5)) (fun y5 => (some (.inl (y5, v3 + (1 : Int32), q2.2))))))))))
set_option maxHeartbeats 4000000 in
theorem w_X3_comingsOf_4 {G : GG} {X : Cx} (h : Ok X (oC G) cX3_comingsOf RX3 4 (RM 1))  (p1 : Int32)  (n : Nat) (v2 : Int32) (v3 : Int32) (st : St) (q : Int32 × Int32 × St) (hq : iter (fun v : Int32 × Int32 × St => l_X3_comingsOf_4 p1 v.1 v.2.1 v.2.2) n (v2, v3, st) = some q) (kx : Wk X (oC G) 4 q.2.2 38 [(0, .ref (al (oC G) 15)), (1, .int p1), (2, .int q.1), (3, .int q.2.1)] []) : Wk X (oC G) 4 st 4 [(0, .ref (al (oC G) 15)), (1, .int p1), (2, .int v2), (3, .int v3)] [] := by
  refine iter_rule (hd := (fun v : Int32 × Int32 × St => Wk X (oC G) 4 v.2.2 4 [(0, .ref (al (oC G) 15)), (1, .int p1), (2, .int v.1), (3, .int v.2.1)] [])) (ex := (fun v : Int32 × Int32 × St => Wk X (oC G) 4 v.2.2 38 [(0, .ref (al (oC G) 15)), (1, .int p1), (2, .int v.1), (3, .int v.2.1)] [])) ?_ n (v2, v3, st) q hq kx
  rintro ⟨v2, v3, st⟩ oo hbv K
  show Wk X (oC G) 4 st 4 [(0, .ref (al (oC G) 15)), (1, .int p1), (2, .int v2), (3, .int v3)] []
  have hf : l_X3_comingsOf_4 p1 v2 v3 st = some oo := hbv
  unfold l_X3_comingsOf_4 at hf
  refine k_iload_n (pc' := 5) h dX3_comingsOf_4 rfl rfl 3 rfl ?_
  refine k_aload_n (pc' := 6) h dX3_comingsOf_5 rfl rfl 0 rfl ?_
  refine k_get (v := .int (st.1 15 2)) (pc' := 9) h dX3_comingsOf_6 rfl bC_sh fl_X3_25 rfl ?_
  refine k_icmp_ge (tgt := 38) (pc' := 12) h dX3_comingsOf_9 rfl rfl (fun c1 => ?_) (fun c1 => ?_)
  · replace hf := if_t c1 hf
    refine k_sub (lv' := [(0, .ref (al (oC G) 15)), (1, .int p1), (2, .int v2), (3, .int v3)]) [0, 1, 2, 3] rfl ?_
    exact lp_o hf K
  · replace hf := if_f c1 hf
    refine k_iload_n (pc' := 13) h dX3_comingsOf_12 rfl rfl 1 rfl ?_
    refine k_iload_n (pc' := 14) h dX3_comingsOf_13 rfl rfl 3 rfl ?_
    obtain ⟨q2, hq2, hf⟩ := bd_s hf
    refine k_callS (As := [.int p1, .int v3]) (rest := []) (rv := some (.int q2.1)) (st' := q2.2) (stk' := [.int q2.1]) (pc' := 17) h dX3_comingsOf_14 rfl ml_X3_102 wc_X3_isIn ws_X3_isIn ⟨Nat.le_of_ble_eq_true rfl, Nat.le_of_ble_eq_true rfl⟩ rfl rfl (Nat.le_of_ble_eq_true rfl) (fun l => c_X3_isIn l p1 v3 st  _ _ hq2) rfl ?_
    refine k_if_eq (tgt := 32) (pc' := 20) h dX3_comingsOf_17 rfl rfl (fun c3 => ?_) (fun c3 => ?_)
    · replace hf := if_t c3 hf
      refine k_iinc (lv' := [(0, .ref (al (oC G) 15)), (1, .int p1), (2, .int v2), (3, .int (v3 + (1 : Int32)))]) (pc' := 35) h dX3_comingsOf_32 rfl 3 rfl (congrArg (fun z => v3 + z) ci_1) (Nat.le_of_ble_eq_true rfl) [1, 2, 3, 0] rfl ?_
      refine k_goto (tgt := 4) h dX3_comingsOf_35 rfl ?_
      refine k_sub (lv' := [(0, .ref (al (oC G) 15)), (1, .int p1), (2, .int v2), (3, .int (v3 + (1 : Int32)))]) [0, 1, 2, 3] rfl ?_
      exact lp_o hf K
    · replace hf := if_f c3 hf
      refine k_iload_n (pc' := 21) h dX3_comingsOf_20 rfl rfl 2 rfl ?_
      refine k_aload_n (pc' := 22) h dX3_comingsOf_21 rfl rfl 0 rfl ?_
      refine k_get (v := .ref (al (oC G) 16)) (pc' := 25) h dX3_comingsOf_22 rfl bC_sh fl_X3_11 rfl ?_
      refine k_iload_n (pc' := 26) h dX3_comingsOf_25 rfl rfl 3 rfl ?_
      have g4 := gd_1 hf
      replace hf := gd_2 hf
      refine k_aald (tt := .object "TheUsual$Regular") (pc' := 27) h dX3_comingsOf_26 rfl rC_regs rfl rfl g4 ?_
      refine k_get (v := .int (q2.2.1 (17 + v3.toNatClampNeg) 5)) (pc' := 30) h dX3_comingsOf_27 rfl (bC_re (Nat.le_add_right 17 v3.toNatClampNeg) (Nat.add_lt_add_left (inb_lt g4) 17)) fl_X3_92 rfl ?_
      refine k_iadd (pc' := 31) h dX3_comingsOf_30 rfl ?_
      obtain ⟨y5, hy5, hf⟩ := lw_s hf
      refine k_eqi hy5 ?_
      refine k_istore_n (lv' := [(0, .ref (al (oC G) 15)), (1, .int p1), (2, .int y5), (3, .int v3)]) (pc' := 32) h dX3_comingsOf_31 rfl rfl (Nat.le_of_ble_eq_true rfl) [1, 2, 0, 3] rfl ?_
      refine k_iinc (lv' := [(0, .ref (al (oC G) 15)), (1, .int p1), (2, .int y5), (3, .int (v3 + (1 : Int32)))]) (pc' := 35) h dX3_comingsOf_32 rfl 3 rfl (congrArg (fun z => v3 + z) ci_1) (Nat.le_of_ble_eq_true rfl) [1, 2, 3, 0] rfl ?_
      refine k_goto (tgt := 4) h dX3_comingsOf_35 rfl ?_
      refine k_sub (lv' := [(0, .ref (al (oC G) 15)), (1, .int p1), (2, .int y5), (3, .int (v3 + (1 : Int32)))]) [0, 1, 2, 3] rfl ?_
      exact lp_o hf K
noncomputable def f_X3_comingsOf (x0 : Int32) (st : St) : Option (Int32 × St) :=
  ((iter (fun v : Int32 × Int32 × St => l_X3_comingsOf_4 x0 v.1 v.2.1 v.2.2) fuel ((0 : Int32), (0 : Int32), st)).bind (fun q6 => (some (q6.1, q6.2.2))))
set_option maxHeartbeats 4000000 in
theorem c_X3_comingsOf {G : GG} (l : Launch) (x0 : Int32) (st : St)  (rr : Int32) (st' : St) (hf : f_X3_comingsOf x0 st = some (rr, st')) : MM l yX3_comingsOf cX3_comingsOf 4 (some .int) 1 (oC G) [.ref (al (oC G) 15), .int x0] st (some (.int rr)) st' := by
  refine mk_MM (by decide +kernel) (Nat.le_of_ble_eq_true rfl) (fun X h r => ?_)
  refine k_sub (lv' := [(0, .ref (al (oC G) 15)), (1, .int x0)]) [0, 1] rfl ?_
  unfold f_X3_comingsOf at hf
  refine k_iconst (pc' := 1) h dX3_comingsOf_0 rfl ci_0 ?_
  refine k_istore_n (lv' := [(0, .ref (al (oC G) 15)), (1, .int x0), (2, .int (0 : Int32))]) (pc' := 2) h dX3_comingsOf_1 rfl rfl (Nat.le_of_ble_eq_true rfl) [1, 2, 0] rfl ?_
  refine k_iconst (pc' := 3) h dX3_comingsOf_2 rfl ci_0 ?_
  refine k_istore_n (lv' := [(0, .ref (al (oC G) 15)), (1, .int x0), (2, .int (0 : Int32)), (3, .int (0 : Int32))]) (pc' := 4) h dX3_comingsOf_3 rfl rfl (Nat.le_of_ble_eq_true rfl) [1, 2, 3, 0] rfl ?_
  obtain ⟨q6, hq6, hf⟩ := bd_s hf
  refine w_X3_comingsOf_4 h x0  fuel (0 : Int32) (0 : Int32) st q6 hq6 ?_
  refine k_iload_n (pc' := 39) h dX3_comingsOf_38 rfl rfl 2 rfl ?_
  exact k_iret h r dX3_comingsOf_39 (lf_i hf)
noncomputable def l_X3_comingsThatWant_5 (p1 : Int32) (p2 : Int32) (v3 : Int32) (v4 : Int32) (st : St) : Option ((Int32 × Int32 × St) ⊕ (Int32 × Int32 × St)) :=
  (if (st.1 15 2) ≤ v4 then (some (.inr (v3, v4, st))) else ((f_X3_isIn p1 v4 st).bind (fun q2 => (if q2.1 = 0 then (some (.inl (v3, v4 + (1 : Int32), q2.2))) else (gd (inb v4 6) ((f_X2_wantOn (17 + v4.toNatClampNeg) (q2.2.1 15 3) q2.2).bind (fun q5 => (if q5.1 = p2 then (gd (inb v4 6) (lw (v3 + (q5.2.1 (17 + v4.toNatClampNeg) 5)) (fun y8 => (some (.inl (y8, v4 + (1 : Int32), q5.2)))))) else (some (.inl (v3, v4 + (1 : Int32), q5.2)))))))))))
set_option maxHeartbeats 4000000 in
theorem w_X3_comingsThatWant_5 {G : GG} {X : Cx} (h : Ok X (oC G) cX3_comingsThatWant RX3 5 (RM 2))  (p1 : Int32) (p2 : Int32)  (n : Nat) (v3 : Int32) (v4 : Int32) (st : St) (q : Int32 × Int32 × St) (hq : iter (fun v : Int32 × Int32 × St => l_X3_comingsThatWant_5 p1 p2 v.1 v.2.1 v.2.2) n (v3, v4, st) = some q) (kx : Wk X (oC G) 5 q.2.2 60 [(0, .ref (al (oC G) 15)), (1, .int p1), (2, .int p2), (3, .int q.1), (4, .int q.2.1)] []) : Wk X (oC G) 5 st 5 [(0, .ref (al (oC G) 15)), (1, .int p1), (2, .int p2), (3, .int v3), (4, .int v4)] [] := by
  refine iter_rule (hd := (fun v : Int32 × Int32 × St => Wk X (oC G) 5 v.2.2 5 [(0, .ref (al (oC G) 15)), (1, .int p1), (2, .int p2), (3, .int v.1), (4, .int v.2.1)] [])) (ex := (fun v : Int32 × Int32 × St => Wk X (oC G) 5 v.2.2 60 [(0, .ref (al (oC G) 15)), (1, .int p1), (2, .int p2), (3, .int v.1), (4, .int v.2.1)] [])) ?_ n (v3, v4, st) q hq kx
  rintro ⟨v3, v4, st⟩ oo hbv K
  show Wk X (oC G) 5 st 5 [(0, .ref (al (oC G) 15)), (1, .int p1), (2, .int p2), (3, .int v3), (4, .int v4)] []
  have hf : l_X3_comingsThatWant_5 p1 p2 v3 v4 st = some oo := hbv
  unfold l_X3_comingsThatWant_5 at hf
  refine k_iload (pc' := 7) h dX3_comingsThatWant_5 rfl 4 rfl ?_
  refine k_aload_n (pc' := 8) h dX3_comingsThatWant_7 rfl rfl 0 rfl ?_
  refine k_get (v := .int (st.1 15 2)) (pc' := 11) h dX3_comingsThatWant_8 rfl bC_sh fl_X3_25 rfl ?_
  refine k_icmp_ge (tgt := 60) (pc' := 14) h dX3_comingsThatWant_11 rfl rfl (fun c1 => ?_) (fun c1 => ?_)
  · replace hf := if_t c1 hf
    refine k_sub (lv' := [(0, .ref (al (oC G) 15)), (1, .int p1), (2, .int p2), (3, .int v3), (4, .int v4)]) [0, 1, 2, 3, 4] rfl ?_
    exact lp_o hf K
  · replace hf := if_f c1 hf
    refine k_iload_n (pc' := 15) h dX3_comingsThatWant_14 rfl rfl 1 rfl ?_
    refine k_iload (pc' := 17) h dX3_comingsThatWant_15 rfl 4 rfl ?_
    obtain ⟨q2, hq2, hf⟩ := bd_s hf
    refine k_callS (As := [.int p1, .int v4]) (rest := []) (rv := some (.int q2.1)) (st' := q2.2) (stk' := [.int q2.1]) (pc' := 20) h dX3_comingsThatWant_17 rfl ml_X3_102 wc_X3_isIn ws_X3_isIn ⟨Nat.le_of_ble_eq_true rfl, Nat.le_of_ble_eq_true rfl⟩ rfl rfl (Nat.le_of_ble_eq_true rfl) (fun l => c_X3_isIn l p1 v4 st  _ _ hq2) rfl ?_
    refine k_if_eq (tgt := 54) (pc' := 23) h dX3_comingsThatWant_20 rfl rfl (fun c3 => ?_) (fun c3 => ?_)
    · replace hf := if_t c3 hf
      refine k_iinc (lv' := [(0, .ref (al (oC G) 15)), (1, .int p1), (2, .int p2), (3, .int v3), (4, .int (v4 + (1 : Int32)))]) (pc' := 57) h dX3_comingsThatWant_54 rfl 4 rfl (congrArg (fun z => v4 + z) ci_1) (Nat.le_of_ble_eq_true rfl) [1, 2, 3, 4, 0] rfl ?_
      refine k_goto (tgt := 5) h dX3_comingsThatWant_57 rfl ?_
      refine k_sub (lv' := [(0, .ref (al (oC G) 15)), (1, .int p1), (2, .int p2), (3, .int v3), (4, .int (v4 + (1 : Int32)))]) [0, 1, 2, 3, 4] rfl ?_
      exact lp_o hf K
    · replace hf := if_f c3 hf
      refine k_aload_n (pc' := 24) h dX3_comingsThatWant_23 rfl rfl 0 rfl ?_
      refine k_get (v := .ref (al (oC G) 16)) (pc' := 27) h dX3_comingsThatWant_24 rfl bC_sh fl_X3_11 rfl ?_
      refine k_iload (pc' := 29) h dX3_comingsThatWant_27 rfl 4 rfl ?_
      have g4 := gd_1 hf
      replace hf := gd_2 hf
      refine k_aald (tt := .object "TheUsual$Regular") (pc' := 30) h dX3_comingsThatWant_29 rfl rC_regs rfl rfl g4 ?_
      refine k_aload_n (pc' := 31) h dX3_comingsThatWant_30 rfl rfl 0 rfl ?_
      refine k_get (v := .int (q2.2.1 15 3)) (pc' := 34) h dX3_comingsThatWant_31 rfl bC_sh fl_X3_37 rfl ?_
      obtain ⟨q5, hq5, hf⟩ := bd_s hf
      refine k_callV (As := [.int (q2.2.1 15 3)]) (rest := []) (rv := some (.int q5.1)) (st' := q5.2) (stk' := [.int q5.1]) (pc' := 37) h dX3_comingsThatWant_34 rfl ml_X3_95 wc_X2_wantOn wi_X2_wantOn ⟨Nat.le_of_ble_eq_true rfl, Nat.le_of_ble_eq_true rfl⟩ (bC_re (Nat.le_add_right 17 v4.toNatClampNeg) (Nat.add_lt_add_left (inb_lt g4) 17)) rfl rfl rfl rfl (Nat.le_of_ble_eq_true rfl) (fun l => c_X2_wantOn l (17 + v4.toNatClampNeg) (q2.2.1 15 3) q2.2 (Nat.le_add_right 17 v4.toNatClampNeg) (Nat.add_lt_add_left (inb_lt g4) 17) _ _ hq5) rfl ?_
      refine k_iload_n (pc' := 38) h dX3_comingsThatWant_37 rfl rfl 2 rfl ?_
      refine k_icmp_ne (tgt := 54) (pc' := 41) h dX3_comingsThatWant_38 rfl rfl (fun c6 => ?_) (fun c6 => ?_)
      · replace hf := if_f c6 hf
        refine k_iinc (lv' := [(0, .ref (al (oC G) 15)), (1, .int p1), (2, .int p2), (3, .int v3), (4, .int (v4 + (1 : Int32)))]) (pc' := 57) h dX3_comingsThatWant_54 rfl 4 rfl (congrArg (fun z => v4 + z) ci_1) (Nat.le_of_ble_eq_true rfl) [1, 2, 3, 4, 0] rfl ?_
        refine k_goto (tgt := 5) h dX3_comingsThatWant_57 rfl ?_
        refine k_sub (lv' := [(0, .ref (al (oC G) 15)), (1, .int p1), (2, .int p2), (3, .int v3), (4, .int (v4 + (1 : Int32)))]) [0, 1, 2, 3, 4] rfl ?_
        exact lp_o hf K
      · replace hf := if_t c6 hf
        refine k_iload_n (pc' := 42) h dX3_comingsThatWant_41 rfl rfl 3 rfl ?_
        refine k_aload_n (pc' := 43) h dX3_comingsThatWant_42 rfl rfl 0 rfl ?_
        refine k_get (v := .ref (al (oC G) 16)) (pc' := 46) h dX3_comingsThatWant_43 rfl bC_sh fl_X3_11 rfl ?_
        refine k_iload (pc' := 48) h dX3_comingsThatWant_46 rfl 4 rfl ?_
        have g7 := gd_1 hf
        replace hf := gd_2 hf
        refine k_aald (tt := .object "TheUsual$Regular") (pc' := 49) h dX3_comingsThatWant_48 rfl rC_regs rfl rfl g7 ?_
        refine k_get (v := .int (q5.2.1 (17 + v4.toNatClampNeg) 5)) (pc' := 52) h dX3_comingsThatWant_49 rfl (bC_re (Nat.le_add_right 17 v4.toNatClampNeg) (Nat.add_lt_add_left (inb_lt g7) 17)) fl_X3_92 rfl ?_
        refine k_iadd (pc' := 53) h dX3_comingsThatWant_52 rfl ?_
        obtain ⟨y8, hy8, hf⟩ := lw_s hf
        refine k_eqi hy8 ?_
        refine k_istore_n (lv' := [(0, .ref (al (oC G) 15)), (1, .int p1), (2, .int p2), (3, .int y8), (4, .int v4)]) (pc' := 54) h dX3_comingsThatWant_53 rfl rfl (Nat.le_of_ble_eq_true rfl) [1, 2, 3, 0, 4] rfl ?_
        refine k_iinc (lv' := [(0, .ref (al (oC G) 15)), (1, .int p1), (2, .int p2), (3, .int y8), (4, .int (v4 + (1 : Int32)))]) (pc' := 57) h dX3_comingsThatWant_54 rfl 4 rfl (congrArg (fun z => v4 + z) ci_1) (Nat.le_of_ble_eq_true rfl) [1, 2, 3, 4, 0] rfl ?_
        refine k_goto (tgt := 5) h dX3_comingsThatWant_57 rfl ?_
        refine k_sub (lv' := [(0, .ref (al (oC G) 15)), (1, .int p1), (2, .int p2), (3, .int y8), (4, .int (v4 + (1 : Int32)))]) [0, 1, 2, 3, 4] rfl ?_
        exact lp_o hf K
noncomputable def f_X3_comingsThatWant (x0 : Int32) (x1 : Int32) (st : St) : Option (Int32 × St) :=
  ((iter (fun v : Int32 × Int32 × St => l_X3_comingsThatWant_5 x0 x1 v.1 v.2.1 v.2.2) fuel ((0 : Int32), (0 : Int32), st)).bind (fun q9 => (some (q9.1, q9.2.2))))
set_option maxHeartbeats 4000000 in
theorem c_X3_comingsThatWant {G : GG} (l : Launch) (x0 : Int32) (x1 : Int32) (st : St)  (rr : Int32) (st' : St) (hf : f_X3_comingsThatWant x0 x1 st = some (rr, st')) : MM l yX3_comingsThatWant cX3_comingsThatWant 5 (some .int) 2 (oC G) [.ref (al (oC G) 15), .int x0, .int x1] st (some (.int rr)) st' := by
  refine mk_MM (by decide +kernel) (Nat.le_of_ble_eq_true rfl) (fun X h r => ?_)
  refine k_sub (lv' := [(0, .ref (al (oC G) 15)), (1, .int x0), (2, .int x1)]) [0, 1, 2] rfl ?_
  unfold f_X3_comingsThatWant at hf
  refine k_iconst (pc' := 1) h dX3_comingsThatWant_0 rfl ci_0 ?_
  refine k_istore_n (lv' := [(0, .ref (al (oC G) 15)), (1, .int x0), (2, .int x1), (3, .int (0 : Int32))]) (pc' := 2) h dX3_comingsThatWant_1 rfl rfl (Nat.le_of_ble_eq_true rfl) [1, 2, 3, 0] rfl ?_
  refine k_iconst (pc' := 3) h dX3_comingsThatWant_2 rfl ci_0 ?_
  refine k_istore (lv' := [(0, .ref (al (oC G) 15)), (1, .int x0), (2, .int x1), (3, .int (0 : Int32)), (4, .int (0 : Int32))]) (pc' := 5) h dX3_comingsThatWant_3 rfl (Nat.le_of_ble_eq_true rfl) [1, 2, 3, 4, 0] rfl ?_
  obtain ⟨q9, hq9, hf⟩ := bd_s hf
  refine w_X3_comingsThatWant_5 h x0 x1  fuel (0 : Int32) (0 : Int32) st q9 hq9 ?_
  refine k_iload_n (pc' := 61) h dX3_comingsThatWant_60 rfl rfl 3 rfl ?_
  exact k_iret h r dX3_comingsThatWant_61 (lf_i hf)
noncomputable def l_X3_secondsOf_5 (p1 : Int32) (p2 : Int32) (v3 : Int32) (v4 : Int32) (st : St) : Option ((Int32 × Int32 × St) ⊕ (Int32 × Int32 × St)) :=
  (if (st.1 15 2) ≤ v4 then (some (.inr (v3, v4, st))) else ((f_X3_isIn p1 v4 st).bind (fun q2 => (if q2.1 = 0 then (some (.inl (v3, v4 + (1 : Int32), q2.2))) else (gd (inb v4 6) (gd (inb v4 6) ((f_X2_secondsFor (17 + v4.toNatClampNeg) p2 (q2.2.1 15 3) q2.2).bind (fun q6 => (lw (v3 + ((q2.2.1 (17 + v4.toNatClampNeg) 5) * q6.1)) (fun y7 => (some (.inl (y7, v4 + (1 : Int32), q6.2)))))))))))))
set_option maxHeartbeats 4000000 in
theorem w_X3_secondsOf_5 {G : GG} {X : Cx} (h : Ok X (oC G) cX3_secondsOf RX3 5 (RM 4))  (p1 : Int32) (p2 : Int32)  (n : Nat) (v3 : Int32) (v4 : Int32) (st : St) (q : Int32 × Int32 × St) (hq : iter (fun v : Int32 × Int32 × St => l_X3_secondsOf_5 p1 p2 v.1 v.2.1 v.2.2) n (v3, v4, st) = some q) (kx : Wk X (oC G) 5 q.2.2 58 [(0, .ref (al (oC G) 15)), (1, .int p1), (2, .int p2), (3, .int q.1), (4, .int q.2.1)] []) : Wk X (oC G) 5 st 5 [(0, .ref (al (oC G) 15)), (1, .int p1), (2, .int p2), (3, .int v3), (4, .int v4)] [] := by
  refine iter_rule (hd := (fun v : Int32 × Int32 × St => Wk X (oC G) 5 v.2.2 5 [(0, .ref (al (oC G) 15)), (1, .int p1), (2, .int p2), (3, .int v.1), (4, .int v.2.1)] [])) (ex := (fun v : Int32 × Int32 × St => Wk X (oC G) 5 v.2.2 58 [(0, .ref (al (oC G) 15)), (1, .int p1), (2, .int p2), (3, .int v.1), (4, .int v.2.1)] [])) ?_ n (v3, v4, st) q hq kx
  rintro ⟨v3, v4, st⟩ oo hbv K
  show Wk X (oC G) 5 st 5 [(0, .ref (al (oC G) 15)), (1, .int p1), (2, .int p2), (3, .int v3), (4, .int v4)] []
  have hf : l_X3_secondsOf_5 p1 p2 v3 v4 st = some oo := hbv
  unfold l_X3_secondsOf_5 at hf
  refine k_iload (pc' := 7) h dX3_secondsOf_5 rfl 4 rfl ?_
  refine k_aload_n (pc' := 8) h dX3_secondsOf_7 rfl rfl 0 rfl ?_
  refine k_get (v := .int (st.1 15 2)) (pc' := 11) h dX3_secondsOf_8 rfl bC_sh fl_X3_25 rfl ?_
  refine k_icmp_ge (tgt := 58) (pc' := 14) h dX3_secondsOf_11 rfl rfl (fun c1 => ?_) (fun c1 => ?_)
  · replace hf := if_t c1 hf
    refine k_sub (lv' := [(0, .ref (al (oC G) 15)), (1, .int p1), (2, .int p2), (3, .int v3), (4, .int v4)]) [0, 1, 2, 3, 4] rfl ?_
    exact lp_o hf K
  · replace hf := if_f c1 hf
    refine k_iload_n (pc' := 15) h dX3_secondsOf_14 rfl rfl 1 rfl ?_
    refine k_iload (pc' := 17) h dX3_secondsOf_15 rfl 4 rfl ?_
    obtain ⟨q2, hq2, hf⟩ := bd_s hf
    refine k_callS (As := [.int p1, .int v4]) (rest := []) (rv := some (.int q2.1)) (st' := q2.2) (stk' := [.int q2.1]) (pc' := 20) h dX3_secondsOf_17 rfl ml_X3_102 wc_X3_isIn ws_X3_isIn ⟨Nat.le_of_ble_eq_true rfl, Nat.le_of_ble_eq_true rfl⟩ rfl rfl (Nat.le_of_ble_eq_true rfl) (fun l => c_X3_isIn l p1 v4 st  _ _ hq2) rfl ?_
    refine k_if_eq (tgt := 52) (pc' := 23) h dX3_secondsOf_20 rfl rfl (fun c3 => ?_) (fun c3 => ?_)
    · replace hf := if_t c3 hf
      refine k_iinc (lv' := [(0, .ref (al (oC G) 15)), (1, .int p1), (2, .int p2), (3, .int v3), (4, .int (v4 + (1 : Int32)))]) (pc' := 55) h dX3_secondsOf_52 rfl 4 rfl (congrArg (fun z => v4 + z) ci_1) (Nat.le_of_ble_eq_true rfl) [1, 2, 3, 4, 0] rfl ?_
      refine k_goto (tgt := 5) h dX3_secondsOf_55 rfl ?_
      refine k_sub (lv' := [(0, .ref (al (oC G) 15)), (1, .int p1), (2, .int p2), (3, .int v3), (4, .int (v4 + (1 : Int32)))]) [0, 1, 2, 3, 4] rfl ?_
      exact lp_o hf K
    · replace hf := if_f c3 hf
      refine k_iload_n (pc' := 24) h dX3_secondsOf_23 rfl rfl 3 rfl ?_
      refine k_aload_n (pc' := 25) h dX3_secondsOf_24 rfl rfl 0 rfl ?_
      refine k_get (v := .ref (al (oC G) 16)) (pc' := 28) h dX3_secondsOf_25 rfl bC_sh fl_X3_11 rfl ?_
      refine k_iload (pc' := 30) h dX3_secondsOf_28 rfl 4 rfl ?_
      have g4 := gd_1 hf
      replace hf := gd_2 hf
      refine k_aald (tt := .object "TheUsual$Regular") (pc' := 31) h dX3_secondsOf_30 rfl rC_regs rfl rfl g4 ?_
      refine k_get (v := .int (q2.2.1 (17 + v4.toNatClampNeg) 5)) (pc' := 34) h dX3_secondsOf_31 rfl (bC_re (Nat.le_add_right 17 v4.toNatClampNeg) (Nat.add_lt_add_left (inb_lt g4) 17)) fl_X3_92 rfl ?_
      refine k_aload_n (pc' := 35) h dX3_secondsOf_34 rfl rfl 0 rfl ?_
      refine k_get (v := .ref (al (oC G) 16)) (pc' := 38) h dX3_secondsOf_35 rfl bC_sh fl_X3_11 rfl ?_
      refine k_iload (pc' := 40) h dX3_secondsOf_38 rfl 4 rfl ?_
      have g5 := gd_1 hf
      replace hf := gd_2 hf
      refine k_aald (tt := .object "TheUsual$Regular") (pc' := 41) h dX3_secondsOf_40 rfl rC_regs rfl rfl g5 ?_
      refine k_iload_n (pc' := 42) h dX3_secondsOf_41 rfl rfl 2 rfl ?_
      refine k_aload_n (pc' := 43) h dX3_secondsOf_42 rfl rfl 0 rfl ?_
      refine k_get (v := .int (q2.2.1 15 3)) (pc' := 46) h dX3_secondsOf_43 rfl bC_sh fl_X3_37 rfl ?_
      obtain ⟨q6, hq6, hf⟩ := bd_s hf
      refine k_callV (As := [.int p2, .int (q2.2.1 15 3)]) (rest := [.int (q2.2.1 (17 + v4.toNatClampNeg) 5), .int v3]) (rv := some (.int q6.1)) (st' := q6.2) (stk' := [.int q6.1, .int (q2.2.1 (17 + v4.toNatClampNeg) 5), .int v3]) (pc' := 49) h dX3_secondsOf_46 rfl ml_X3_70 wc_X2_secondsFor wi_X2_secondsFor ⟨Nat.le_of_ble_eq_true rfl, Nat.le_of_ble_eq_true rfl⟩ (bC_re (Nat.le_add_right 17 v4.toNatClampNeg) (Nat.add_lt_add_left (inb_lt g5) 17)) rfl rfl rfl rfl (Nat.le_of_ble_eq_true rfl) (fun l => c_X2_secondsFor l (17 + v4.toNatClampNeg) p2 (q2.2.1 15 3) q2.2 (Nat.le_add_right 17 v4.toNatClampNeg) (Nat.add_lt_add_left (inb_lt g5) 17) _ _ hq6) rfl ?_
      refine k_imul (pc' := 50) h dX3_secondsOf_49 rfl ?_
      refine k_iadd (pc' := 51) h dX3_secondsOf_50 rfl ?_
      obtain ⟨y7, hy7, hf⟩ := lw_s hf
      refine k_eqi hy7 ?_
      refine k_istore_n (lv' := [(0, .ref (al (oC G) 15)), (1, .int p1), (2, .int p2), (3, .int y7), (4, .int v4)]) (pc' := 52) h dX3_secondsOf_51 rfl rfl (Nat.le_of_ble_eq_true rfl) [1, 2, 3, 0, 4] rfl ?_
      refine k_iinc (lv' := [(0, .ref (al (oC G) 15)), (1, .int p1), (2, .int p2), (3, .int y7), (4, .int (v4 + (1 : Int32)))]) (pc' := 55) h dX3_secondsOf_52 rfl 4 rfl (congrArg (fun z => v4 + z) ci_1) (Nat.le_of_ble_eq_true rfl) [1, 2, 3, 4, 0] rfl ?_
      refine k_goto (tgt := 5) h dX3_secondsOf_55 rfl ?_
      refine k_sub (lv' := [(0, .ref (al (oC G) 15)), (1, .int p1), (2, .int p2), (3, .int y7), (4, .int (v4 + (1 : Int32)))]) [0, 1, 2, 3, 4] rfl ?_
      exact lp_o hf K
noncomputable def f_X3_secondsOf (x0 : Int32) (x1 : Int32) (st : St) : Option (Int32 × St) :=
  ((iter (fun v : Int32 × Int32 × St => l_X3_secondsOf_5 x0 x1 v.1 v.2.1 v.2.2) fuel ((0 : Int32), (0 : Int32), st)).bind (fun q8 => (some (q8.1, q8.2.2))))
set_option maxHeartbeats 4000000 in
theorem c_X3_secondsOf {G : GG} (l : Launch) (x0 : Int32) (x1 : Int32) (st : St)  (rr : Int32) (st' : St) (hf : f_X3_secondsOf x0 x1 st = some (rr, st')) : MM l yX3_secondsOf cX3_secondsOf 5 (some .int) 4 (oC G) [.ref (al (oC G) 15), .int x0, .int x1] st (some (.int rr)) st' := by
  refine mk_MM (by decide +kernel) (Nat.le_of_ble_eq_true rfl) (fun X h r => ?_)
  refine k_sub (lv' := [(0, .ref (al (oC G) 15)), (1, .int x0), (2, .int x1)]) [0, 1, 2] rfl ?_
  unfold f_X3_secondsOf at hf
  refine k_iconst (pc' := 1) h dX3_secondsOf_0 rfl ci_0 ?_
  refine k_istore_n (lv' := [(0, .ref (al (oC G) 15)), (1, .int x0), (2, .int x1), (3, .int (0 : Int32))]) (pc' := 2) h dX3_secondsOf_1 rfl rfl (Nat.le_of_ble_eq_true rfl) [1, 2, 3, 0] rfl ?_
  refine k_iconst (pc' := 3) h dX3_secondsOf_2 rfl ci_0 ?_
  refine k_istore (lv' := [(0, .ref (al (oC G) 15)), (1, .int x0), (2, .int x1), (3, .int (0 : Int32)), (4, .int (0 : Int32))]) (pc' := 5) h dX3_secondsOf_3 rfl (Nat.le_of_ble_eq_true rfl) [1, 2, 3, 4, 0] rfl ?_
  obtain ⟨q8, hq8, hf⟩ := bd_s hf
  refine w_X3_secondsOf_5 h x0 x1  fuel (0 : Int32) (0 : Int32) st q8 hq8 ?_
  refine k_iload_n (pc' := 59) h dX3_secondsOf_58 rfl rfl 3 rfl ?_
  exact k_iret h r dX3_secondsOf_59 (lf_i hf)
noncomputable def l_X3_quickestFor_5 (p1 : Int32) (v2 : Int32) (v3 : Int32) (st : St) : Option ((Int32 × Int32 × St) ⊕ (Int32 × Int32 × St)) :=
  (if (6 : Int32) ≤ v3 then (some (.inr (v2, v3, st))) else ((f_X3_secondsOf p1 v3 st).bind (fun q2 => ((f_X3_secondsOf p1 v2 q2.2).bind (fun q3 => (if q3.1 ≤ q2.1 then (some (.inl (v2, v3 + (1 : Int32), q3.2))) else (some (.inl (v3, v3 + (1 : Int32), q3.2)))))))))
set_option maxHeartbeats 4000000 in
theorem w_X3_quickestFor_5 {G : GG} {X : Cx} (h : Ok X (oC G) cX3_quickestFor RX3 4 (RM 5))  (p1 : Int32)  (n : Nat) (v2 : Int32) (v3 : Int32) (st : St) (q : Int32 × Int32 × St) (hq : iter (fun v : Int32 × Int32 × St => l_X3_quickestFor_5 p1 v.1 v.2.1 v.2.2) n (v2, v3, st) = some q) (kx : Wk X (oC G) 4 q.2.2 34 [(0, .ref (al (oC G) 15)), (1, .int p1), (2, .int q.1), (3, .int q.2.1)] []) : Wk X (oC G) 4 st 5 [(0, .ref (al (oC G) 15)), (1, .int p1), (2, .int v2), (3, .int v3)] [] := by
  refine iter_rule (hd := (fun v : Int32 × Int32 × St => Wk X (oC G) 4 v.2.2 5 [(0, .ref (al (oC G) 15)), (1, .int p1), (2, .int v.1), (3, .int v.2.1)] [])) (ex := (fun v : Int32 × Int32 × St => Wk X (oC G) 4 v.2.2 34 [(0, .ref (al (oC G) 15)), (1, .int p1), (2, .int v.1), (3, .int v.2.1)] [])) ?_ n (v2, v3, st) q hq kx
  rintro ⟨v2, v3, st⟩ oo hbv K
  show Wk X (oC G) 4 st 5 [(0, .ref (al (oC G) 15)), (1, .int p1), (2, .int v2), (3, .int v3)] []
  have hf : l_X3_quickestFor_5 p1 v2 v3 st = some oo := hbv
  unfold l_X3_quickestFor_5 at hf
  refine k_iload_n (pc' := 6) h dX3_quickestFor_5 rfl rfl 3 rfl ?_
  refine k_bipush (pc' := 8) h dX3_quickestFor_6 rfl cb_6 ?_
  refine k_icmp_ge (tgt := 34) (pc' := 11) h dX3_quickestFor_8 rfl rfl (fun c1 => ?_) (fun c1 => ?_)
  · replace hf := if_t c1 hf
    refine k_sub (lv' := [(0, .ref (al (oC G) 15)), (1, .int p1), (2, .int v2), (3, .int v3)]) [0, 1, 2, 3] rfl ?_
    exact lp_o hf K
  · replace hf := if_f c1 hf
    refine k_aload_n (pc' := 12) h dX3_quickestFor_11 rfl rfl 0 rfl ?_
    refine k_iload_n (pc' := 13) h dX3_quickestFor_12 rfl rfl 1 rfl ?_
    refine k_iload_n (pc' := 14) h dX3_quickestFor_13 rfl rfl 3 rfl ?_
    obtain ⟨q2, hq2, hf⟩ := bd_s hf
    refine k_callV (As := [.int p1, .int v3]) (rest := []) (rv := some (.int q2.1)) (st' := q2.2) (stk' := [.int q2.1]) (pc' := 17) h dX3_quickestFor_14 rfl ml_X3_105 wc_X3_secondsOf wi_X3_secondsOf ⟨Nat.le_of_ble_eq_true rfl, Nat.le_of_ble_eq_true rfl⟩ bC_sh rfl rfl rfl rfl (Nat.le_of_ble_eq_true rfl) (fun l => c_X3_secondsOf l p1 v3 st  _ _ hq2) rfl ?_
    refine k_aload_n (pc' := 18) h dX3_quickestFor_17 rfl rfl 0 rfl ?_
    refine k_iload_n (pc' := 19) h dX3_quickestFor_18 rfl rfl 1 rfl ?_
    refine k_iload_n (pc' := 20) h dX3_quickestFor_19 rfl rfl 2 rfl ?_
    obtain ⟨q3, hq3, hf⟩ := bd_s hf
    refine k_callV (As := [.int p1, .int v2]) (rest := [.int q2.1]) (rv := some (.int q3.1)) (st' := q3.2) (stk' := [.int q3.1, .int q2.1]) (pc' := 23) h dX3_quickestFor_20 rfl ml_X3_105 wc_X3_secondsOf wi_X3_secondsOf ⟨Nat.le_of_ble_eq_true rfl, Nat.le_of_ble_eq_true rfl⟩ bC_sh rfl rfl rfl rfl (Nat.le_of_ble_eq_true rfl) (fun l => c_X3_secondsOf l p1 v2 q2.2  _ _ hq3) rfl ?_
    refine k_icmp_ge (tgt := 28) (pc' := 26) h dX3_quickestFor_23 rfl rfl (fun c4 => ?_) (fun c4 => ?_)
    · replace hf := if_t c4 hf
      refine k_iinc (lv' := [(0, .ref (al (oC G) 15)), (1, .int p1), (2, .int v2), (3, .int (v3 + (1 : Int32)))]) (pc' := 31) h dX3_quickestFor_28 rfl 3 rfl (congrArg (fun z => v3 + z) ci_1) (Nat.le_of_ble_eq_true rfl) [1, 2, 3, 0] rfl ?_
      refine k_goto (tgt := 5) h dX3_quickestFor_31 rfl ?_
      refine k_sub (lv' := [(0, .ref (al (oC G) 15)), (1, .int p1), (2, .int v2), (3, .int (v3 + (1 : Int32)))]) [0, 1, 2, 3] rfl ?_
      exact lp_o hf K
    · replace hf := if_f c4 hf
      refine k_iload_n (pc' := 27) h dX3_quickestFor_26 rfl rfl 3 rfl ?_
      refine k_istore_n (lv' := [(0, .ref (al (oC G) 15)), (1, .int p1), (2, .int v3), (3, .int v3)]) (pc' := 28) h dX3_quickestFor_27 rfl rfl (Nat.le_of_ble_eq_true rfl) [1, 2, 0, 3] rfl ?_
      refine k_iinc (lv' := [(0, .ref (al (oC G) 15)), (1, .int p1), (2, .int v3), (3, .int (v3 + (1 : Int32)))]) (pc' := 31) h dX3_quickestFor_28 rfl 3 rfl (congrArg (fun z => v3 + z) ci_1) (Nat.le_of_ble_eq_true rfl) [1, 2, 3, 0] rfl ?_
      refine k_goto (tgt := 5) h dX3_quickestFor_31 rfl ?_
      refine k_sub (lv' := [(0, .ref (al (oC G) 15)), (1, .int p1), (2, .int v3), (3, .int (v3 + (1 : Int32)))]) [0, 1, 2, 3] rfl ?_
      exact lp_o hf K
noncomputable def f_X3_quickestFor (x0 : Int32) (st : St) : Option (Int32 × St) :=
  ((iter (fun v : Int32 × Int32 × St => l_X3_quickestFor_5 x0 v.1 v.2.1 v.2.2) fuel ((-9 : Int32), (0 : Int32), st)).bind (fun q5 => (some (q5.1, q5.2.2))))
set_option maxHeartbeats 4000000 in
theorem c_X3_quickestFor {G : GG} (l : Launch) (x0 : Int32) (st : St)  (rr : Int32) (st' : St) (hf : f_X3_quickestFor x0 st = some (rr, st')) : MM l yX3_quickestFor cX3_quickestFor 4 (some .int) 5 (oC G) [.ref (al (oC G) 15), .int x0] st (some (.int rr)) st' := by
  refine mk_MM (by decide +kernel) (Nat.le_of_ble_eq_true rfl) (fun X h r => ?_)
  refine k_sub (lv' := [(0, .ref (al (oC G) 15)), (1, .int x0)]) [0, 1] rfl ?_
  unfold f_X3_quickestFor at hf
  refine k_bipush (pc' := 2) h dX3_quickestFor_0 rfl cb_m9 ?_
  refine k_istore_n (lv' := [(0, .ref (al (oC G) 15)), (1, .int x0), (2, .int (-9 : Int32))]) (pc' := 3) h dX3_quickestFor_2 rfl rfl (Nat.le_of_ble_eq_true rfl) [1, 2, 0] rfl ?_
  refine k_iconst (pc' := 4) h dX3_quickestFor_3 rfl ci_0 ?_
  refine k_istore_n (lv' := [(0, .ref (al (oC G) 15)), (1, .int x0), (2, .int (-9 : Int32)), (3, .int (0 : Int32))]) (pc' := 5) h dX3_quickestFor_4 rfl rfl (Nat.le_of_ble_eq_true rfl) [1, 2, 3, 0] rfl ?_
  obtain ⟨q5, hq5, hf⟩ := bd_s hf
  refine w_X3_quickestFor_5 h x0  fuel (-9 : Int32) (0 : Int32) st q5 hq5 ?_
  refine k_iload_n (pc' := 35) h dX3_quickestFor_34 rfl rfl 2 rfl ?_
  exact k_iret h r dX3_quickestFor_35 (lf_i hf)
noncomputable def l_X3_weekWith_4 (p1 : Int32) (v2 : Int32) (v3 : Int32) (st : St) : Option ((Int32 × Int32 × St) ⊕ (Int32 × Int32 × St)) :=
  (if (st.1 15 2) ≤ v3 then (some (.inr (v2, v3, st))) else (gd (inb v3 6) ((f_X3_isIn p1 v3 st).bind (fun q3 => (if q3.1 = 0 then (lw (v2 + ((st.1 (17 + v3.toNatClampNeg) 5) * (40 : Int32))) (fun y5 => (some (.inl (y5, v3 + (1 : Int32), q3.2))))) else (lw (v2 + ((st.1 (17 + v3.toNatClampNeg) 5) * (9 : Int32))) (fun y6 => (some (.inl (y6, v3 + (1 : Int32), q3.2))))))))))
set_option maxHeartbeats 4000000 in
theorem w_X3_weekWith_4 {G : GG} {X : Cx} (h : Ok X (oC G) cX3_weekWith RX3 4 (RM 1))  (p1 : Int32)  (n : Nat) (v2 : Int32) (v3 : Int32) (st : St) (q : Int32 × Int32 × St) (hq : iter (fun v : Int32 × Int32 × St => l_X3_weekWith_4 p1 v.1 v.2.1 v.2.2) n (v2, v3, st) = some q) (kx : Wk X (oC G) 4 q.2.2 46 [(0, .ref (al (oC G) 15)), (1, .int p1), (2, .int q.1), (3, .int q.2.1)] []) : Wk X (oC G) 4 st 4 [(0, .ref (al (oC G) 15)), (1, .int p1), (2, .int v2), (3, .int v3)] [] := by
  refine iter_rule (hd := (fun v : Int32 × Int32 × St => Wk X (oC G) 4 v.2.2 4 [(0, .ref (al (oC G) 15)), (1, .int p1), (2, .int v.1), (3, .int v.2.1)] [])) (ex := (fun v : Int32 × Int32 × St => Wk X (oC G) 4 v.2.2 46 [(0, .ref (al (oC G) 15)), (1, .int p1), (2, .int v.1), (3, .int v.2.1)] [])) ?_ n (v2, v3, st) q hq kx
  rintro ⟨v2, v3, st⟩ oo hbv K
  show Wk X (oC G) 4 st 4 [(0, .ref (al (oC G) 15)), (1, .int p1), (2, .int v2), (3, .int v3)] []
  have hf : l_X3_weekWith_4 p1 v2 v3 st = some oo := hbv
  unfold l_X3_weekWith_4 at hf
  refine k_iload_n (pc' := 5) h dX3_weekWith_4 rfl rfl 3 rfl ?_
  refine k_aload_n (pc' := 6) h dX3_weekWith_5 rfl rfl 0 rfl ?_
  refine k_get (v := .int (st.1 15 2)) (pc' := 9) h dX3_weekWith_6 rfl bC_sh fl_X3_25 rfl ?_
  refine k_icmp_ge (tgt := 46) (pc' := 12) h dX3_weekWith_9 rfl rfl (fun c1 => ?_) (fun c1 => ?_)
  · replace hf := if_t c1 hf
    refine k_sub (lv' := [(0, .ref (al (oC G) 15)), (1, .int p1), (2, .int v2), (3, .int v3)]) [0, 1, 2, 3] rfl ?_
    exact lp_o hf K
  · replace hf := if_f c1 hf
    refine k_iload_n (pc' := 13) h dX3_weekWith_12 rfl rfl 2 rfl ?_
    refine k_aload_n (pc' := 14) h dX3_weekWith_13 rfl rfl 0 rfl ?_
    refine k_get (v := .ref (al (oC G) 16)) (pc' := 17) h dX3_weekWith_14 rfl bC_sh fl_X3_11 rfl ?_
    refine k_iload_n (pc' := 18) h dX3_weekWith_17 rfl rfl 3 rfl ?_
    have g2 := gd_1 hf
    replace hf := gd_2 hf
    refine k_aald (tt := .object "TheUsual$Regular") (pc' := 19) h dX3_weekWith_18 rfl rC_regs rfl rfl g2 ?_
    refine k_get (v := .int (st.1 (17 + v3.toNatClampNeg) 5)) (pc' := 22) h dX3_weekWith_19 rfl (bC_re (Nat.le_add_right 17 v3.toNatClampNeg) (Nat.add_lt_add_left (inb_lt g2) 17)) fl_X3_92 rfl ?_
    refine k_iload_n (pc' := 23) h dX3_weekWith_22 rfl rfl 1 rfl ?_
    refine k_iload_n (pc' := 24) h dX3_weekWith_23 rfl rfl 3 rfl ?_
    obtain ⟨q3, hq3, hf⟩ := bd_s hf
    refine k_callS (As := [.int p1, .int v3]) (rest := [.int (st.1 (17 + v3.toNatClampNeg) 5), .int v2]) (rv := some (.int q3.1)) (st' := q3.2) (stk' := [.int q3.1, .int (st.1 (17 + v3.toNatClampNeg) 5), .int v2]) (pc' := 27) h dX3_weekWith_24 rfl ml_X3_102 wc_X3_isIn ws_X3_isIn ⟨Nat.le_of_ble_eq_true rfl, Nat.le_of_ble_eq_true rfl⟩ rfl rfl (Nat.le_of_ble_eq_true rfl) (fun l => c_X3_isIn l p1 v3 st  _ _ hq3) rfl ?_
    refine k_if_eq (tgt := 35) (pc' := 30) h dX3_weekWith_27 rfl rfl (fun c4 => ?_) (fun c4 => ?_)
    · replace hf := if_t c4 hf
      refine k_bipush (pc' := 37) h dX3_weekWith_35 rfl cb_40 ?_
      refine k_imul (pc' := 38) h dX3_weekWith_37 rfl ?_
      refine k_iadd (pc' := 39) h dX3_weekWith_38 rfl ?_
      obtain ⟨y5, hy5, hf⟩ := lw_s hf
      refine k_eqi hy5 ?_
      refine k_istore_n (lv' := [(0, .ref (al (oC G) 15)), (1, .int p1), (2, .int y5), (3, .int v3)]) (pc' := 40) h dX3_weekWith_39 rfl rfl (Nat.le_of_ble_eq_true rfl) [1, 2, 0, 3] rfl ?_
      refine k_iinc (lv' := [(0, .ref (al (oC G) 15)), (1, .int p1), (2, .int y5), (3, .int (v3 + (1 : Int32)))]) (pc' := 43) h dX3_weekWith_40 rfl 3 rfl (congrArg (fun z => v3 + z) ci_1) (Nat.le_of_ble_eq_true rfl) [1, 2, 3, 0] rfl ?_
      refine k_goto (tgt := 4) h dX3_weekWith_43 rfl ?_
      refine k_sub (lv' := [(0, .ref (al (oC G) 15)), (1, .int p1), (2, .int y5), (3, .int (v3 + (1 : Int32)))]) [0, 1, 2, 3] rfl ?_
      exact lp_o hf K
    · replace hf := if_f c4 hf
      refine k_bipush (pc' := 32) h dX3_weekWith_30 rfl cb_9 ?_
      refine k_goto (tgt := 37) h dX3_weekWith_32 rfl ?_
      refine k_imul (pc' := 38) h dX3_weekWith_37 rfl ?_
      refine k_iadd (pc' := 39) h dX3_weekWith_38 rfl ?_
      obtain ⟨y6, hy6, hf⟩ := lw_s hf
      refine k_eqi hy6 ?_
      refine k_istore_n (lv' := [(0, .ref (al (oC G) 15)), (1, .int p1), (2, .int y6), (3, .int v3)]) (pc' := 40) h dX3_weekWith_39 rfl rfl (Nat.le_of_ble_eq_true rfl) [1, 2, 0, 3] rfl ?_
      refine k_iinc (lv' := [(0, .ref (al (oC G) 15)), (1, .int p1), (2, .int y6), (3, .int (v3 + (1 : Int32)))]) (pc' := 43) h dX3_weekWith_40 rfl 3 rfl (congrArg (fun z => v3 + z) ci_1) (Nat.le_of_ble_eq_true rfl) [1, 2, 3, 0] rfl ?_
      refine k_goto (tgt := 4) h dX3_weekWith_43 rfl ?_
      refine k_sub (lv' := [(0, .ref (al (oC G) 15)), (1, .int p1), (2, .int y6), (3, .int (v3 + (1 : Int32)))]) [0, 1, 2, 3] rfl ?_
      exact lp_o hf K
noncomputable def f_X3_weekWith (x0 : Int32) (st : St) : Option (Int32 × St) :=
  ((iter (fun v : Int32 × Int32 × St => l_X3_weekWith_4 x0 v.1 v.2.1 v.2.2) fuel ((0 : Int32), (0 : Int32), st)).bind (fun q7 => (some (q7.1, q7.2.2))))
set_option maxHeartbeats 4000000 in
theorem c_X3_weekWith {G : GG} (l : Launch) (x0 : Int32) (st : St)  (rr : Int32) (st' : St) (hf : f_X3_weekWith x0 st = some (rr, st')) : MM l yX3_weekWith cX3_weekWith 4 (some .int) 1 (oC G) [.ref (al (oC G) 15), .int x0] st (some (.int rr)) st' := by
  refine mk_MM (by decide +kernel) (Nat.le_of_ble_eq_true rfl) (fun X h r => ?_)
  refine k_sub (lv' := [(0, .ref (al (oC G) 15)), (1, .int x0)]) [0, 1] rfl ?_
  unfold f_X3_weekWith at hf
  refine k_iconst (pc' := 1) h dX3_weekWith_0 rfl ci_0 ?_
  refine k_istore_n (lv' := [(0, .ref (al (oC G) 15)), (1, .int x0), (2, .int (0 : Int32))]) (pc' := 2) h dX3_weekWith_1 rfl rfl (Nat.le_of_ble_eq_true rfl) [1, 2, 0] rfl ?_
  refine k_iconst (pc' := 3) h dX3_weekWith_2 rfl ci_0 ?_
  refine k_istore_n (lv' := [(0, .ref (al (oC G) 15)), (1, .int x0), (2, .int (0 : Int32)), (3, .int (0 : Int32))]) (pc' := 4) h dX3_weekWith_3 rfl rfl (Nat.le_of_ble_eq_true rfl) [1, 2, 3, 0] rfl ?_
  obtain ⟨q7, hq7, hf⟩ := bd_s hf
  refine w_X3_weekWith_4 h x0  fuel (0 : Int32) (0 : Int32) st q7 hq7 ?_
  refine k_iload_n (pc' := 47) h dX3_weekWith_46 rfl rfl 2 rfl ?_
  exact k_iret h r dX3_weekWith_47 (lf_i hf)
noncomputable def l_X3_knownOnes_4  (v1 : Int32) (v2 : Int32) (st : St) : Option ((Int32 × Int32 × St) ⊕ (Int32 × Int32 × St)) :=
  (if (st.1 15 2) ≤ v2 then (some (.inr (v1, v2, st))) else (gd (inb v2 6) ((f_X2_isKnown (17 + v2.toNatClampNeg) st).bind (fun q3 => (if q3.1 = 0 then (some (.inl (v1, v2 + (1 : Int32), q3.2))) else (some (.inl (v1 + (1 : Int32), v2 + (1 : Int32), q3.2))))))))
set_option maxHeartbeats 4000000 in
theorem w_X3_knownOnes_4 {G : GG} {X : Cx} (h : Ok X (oC G) cX3_knownOnes RX3 3 (RM 1))    (n : Nat) (v1 : Int32) (v2 : Int32) (st : St) (q : Int32 × Int32 × St) (hq : iter (fun v : Int32 × Int32 × St => l_X3_knownOnes_4  v.1 v.2.1 v.2.2) n (v1, v2, st) = some q) (kx : Wk X (oC G) 3 q.2.2 33 [(0, .ref (al (oC G) 15)), (1, .int q.1), (2, .int q.2.1)] []) : Wk X (oC G) 3 st 4 [(0, .ref (al (oC G) 15)), (1, .int v1), (2, .int v2)] [] := by
  refine iter_rule (hd := (fun v : Int32 × Int32 × St => Wk X (oC G) 3 v.2.2 4 [(0, .ref (al (oC G) 15)), (1, .int v.1), (2, .int v.2.1)] [])) (ex := (fun v : Int32 × Int32 × St => Wk X (oC G) 3 v.2.2 33 [(0, .ref (al (oC G) 15)), (1, .int v.1), (2, .int v.2.1)] [])) ?_ n (v1, v2, st) q hq kx
  rintro ⟨v1, v2, st⟩ oo hbv K
  show Wk X (oC G) 3 st 4 [(0, .ref (al (oC G) 15)), (1, .int v1), (2, .int v2)] []
  have hf : l_X3_knownOnes_4  v1 v2 st = some oo := hbv
  unfold l_X3_knownOnes_4 at hf
  refine k_iload_n (pc' := 5) h dX3_knownOnes_4 rfl rfl 2 rfl ?_
  refine k_aload_n (pc' := 6) h dX3_knownOnes_5 rfl rfl 0 rfl ?_
  refine k_get (v := .int (st.1 15 2)) (pc' := 9) h dX3_knownOnes_6 rfl bC_sh fl_X3_25 rfl ?_
  refine k_icmp_ge (tgt := 33) (pc' := 12) h dX3_knownOnes_9 rfl rfl (fun c1 => ?_) (fun c1 => ?_)
  · replace hf := if_t c1 hf
    refine k_sub (lv' := [(0, .ref (al (oC G) 15)), (1, .int v1), (2, .int v2)]) [0, 1, 2] rfl ?_
    exact lp_o hf K
  · replace hf := if_f c1 hf
    refine k_aload_n (pc' := 13) h dX3_knownOnes_12 rfl rfl 0 rfl ?_
    refine k_get (v := .ref (al (oC G) 16)) (pc' := 16) h dX3_knownOnes_13 rfl bC_sh fl_X3_11 rfl ?_
    refine k_iload_n (pc' := 17) h dX3_knownOnes_16 rfl rfl 2 rfl ?_
    have g2 := gd_1 hf
    replace hf := gd_2 hf
    refine k_aald (tt := .object "TheUsual$Regular") (pc' := 18) h dX3_knownOnes_17 rfl rC_regs rfl rfl g2 ?_
    obtain ⟨q3, hq3, hf⟩ := bd_s hf
    refine k_callV (As := []) (rest := []) (rv := some (.int q3.1)) (st' := q3.2) (stk' := [.int q3.1]) (pc' := 21) h dX3_knownOnes_18 rfl ml_X3_108 wc_X2_isKnown wi_X2_isKnown ⟨Nat.le_of_ble_eq_true rfl, Nat.le_of_ble_eq_true rfl⟩ (bC_re (Nat.le_add_right 17 v2.toNatClampNeg) (Nat.add_lt_add_left (inb_lt g2) 17)) rfl rfl rfl rfl (Nat.le_of_ble_eq_true rfl) (fun l => c_X2_isKnown l (17 + v2.toNatClampNeg) st (Nat.le_add_right 17 v2.toNatClampNeg) (Nat.add_lt_add_left (inb_lt g2) 17) _ _ hq3) rfl ?_
    refine k_if_eq (tgt := 27) (pc' := 24) h dX3_knownOnes_21 rfl rfl (fun c4 => ?_) (fun c4 => ?_)
    · replace hf := if_t c4 hf
      refine k_iinc (lv' := [(0, .ref (al (oC G) 15)), (1, .int v1), (2, .int (v2 + (1 : Int32)))]) (pc' := 30) h dX3_knownOnes_27 rfl 2 rfl (congrArg (fun z => v2 + z) ci_1) (Nat.le_of_ble_eq_true rfl) [1, 2, 0] rfl ?_
      refine k_goto (tgt := 4) h dX3_knownOnes_30 rfl ?_
      refine k_sub (lv' := [(0, .ref (al (oC G) 15)), (1, .int v1), (2, .int (v2 + (1 : Int32)))]) [0, 1, 2] rfl ?_
      exact lp_o hf K
    · replace hf := if_f c4 hf
      refine k_iinc (lv' := [(0, .ref (al (oC G) 15)), (1, .int (v1 + (1 : Int32))), (2, .int v2)]) (pc' := 27) h dX3_knownOnes_24 rfl 1 rfl (congrArg (fun z => v1 + z) ci_1) (Nat.le_of_ble_eq_true rfl) [1, 0, 2] rfl ?_
      refine k_iinc (lv' := [(0, .ref (al (oC G) 15)), (1, .int (v1 + (1 : Int32))), (2, .int (v2 + (1 : Int32)))]) (pc' := 30) h dX3_knownOnes_27 rfl 2 rfl (congrArg (fun z => v2 + z) ci_1) (Nat.le_of_ble_eq_true rfl) [1, 2, 0] rfl ?_
      refine k_goto (tgt := 4) h dX3_knownOnes_30 rfl ?_
      refine k_sub (lv' := [(0, .ref (al (oC G) 15)), (1, .int (v1 + (1 : Int32))), (2, .int (v2 + (1 : Int32)))]) [0, 1, 2] rfl ?_
      exact lp_o hf K
noncomputable def f_X3_knownOnes  (st : St) : Option (Int32 × St) :=
  ((iter (fun v : Int32 × Int32 × St => l_X3_knownOnes_4  v.1 v.2.1 v.2.2) fuel ((0 : Int32), (0 : Int32), st)).bind (fun q5 => (some (q5.1, q5.2.2))))
set_option maxHeartbeats 4000000 in
theorem c_X3_knownOnes {G : GG} (l : Launch)  (st : St)  (rr : Int32) (st' : St) (hf : f_X3_knownOnes  st = some (rr, st')) : MM l yX3_knownOnes cX3_knownOnes 3 (some .int) 1 (oC G) [.ref (al (oC G) 15)] st (some (.int rr)) st' := by
  refine mk_MM (by decide +kernel) (Nat.le_of_ble_eq_true rfl) (fun X h r => ?_)
  refine k_sub (lv' := [(0, .ref (al (oC G) 15))]) [0] rfl ?_
  unfold f_X3_knownOnes at hf
  refine k_iconst (pc' := 1) h dX3_knownOnes_0 rfl ci_0 ?_
  refine k_istore_n (lv' := [(0, .ref (al (oC G) 15)), (1, .int (0 : Int32))]) (pc' := 2) h dX3_knownOnes_1 rfl rfl (Nat.le_of_ble_eq_true rfl) [1, 0] rfl ?_
  refine k_iconst (pc' := 3) h dX3_knownOnes_2 rfl ci_0 ?_
  refine k_istore_n (lv' := [(0, .ref (al (oC G) 15)), (1, .int (0 : Int32)), (2, .int (0 : Int32))]) (pc' := 4) h dX3_knownOnes_3 rfl rfl (Nat.le_of_ble_eq_true rfl) [1, 2, 0] rfl ?_
  obtain ⟨q5, hq5, hf⟩ := bd_s hf
  refine w_X3_knownOnes_4 h   fuel (0 : Int32) (0 : Int32) st q5 hq5 ?_
  refine k_iload_n (pc' := 34) h dX3_knownOnes_33 rfl rfl 1 rfl ?_
  exact k_iret h r dX3_knownOnes_34 (lf_i hf)
noncomputable def l_X3_silentOnes_4  (v1 : Int32) (v2 : Int32) (st : St) : Option ((Int32 × Int32 × St) ⊕ (Int32 × Int32 × St)) :=
  (if (st.1 15 2) ≤ v2 then (some (.inr (v1, v2, st))) else (gd (inb v2 6) ((f_X2_isOf (17 + v2.toNatClampNeg) (1 : Int32) st).bind (fun q3 => (if q3.1 = 0 then (some (.inl (v1, v2 + (1 : Int32), q3.2))) else (some (.inl (v1 + (1 : Int32), v2 + (1 : Int32), q3.2))))))))
set_option maxHeartbeats 4000000 in
theorem w_X3_silentOnes_4 {G : GG} {X : Cx} (h : Ok X (oC G) cX3_silentOnes RX3 3 (RM 1))    (n : Nat) (v1 : Int32) (v2 : Int32) (st : St) (q : Int32 × Int32 × St) (hq : iter (fun v : Int32 × Int32 × St => l_X3_silentOnes_4  v.1 v.2.1 v.2.2) n (v1, v2, st) = some q) (kx : Wk X (oC G) 3 q.2.2 34 [(0, .ref (al (oC G) 15)), (1, .int q.1), (2, .int q.2.1)] []) : Wk X (oC G) 3 st 4 [(0, .ref (al (oC G) 15)), (1, .int v1), (2, .int v2)] [] := by
  refine iter_rule (hd := (fun v : Int32 × Int32 × St => Wk X (oC G) 3 v.2.2 4 [(0, .ref (al (oC G) 15)), (1, .int v.1), (2, .int v.2.1)] [])) (ex := (fun v : Int32 × Int32 × St => Wk X (oC G) 3 v.2.2 34 [(0, .ref (al (oC G) 15)), (1, .int v.1), (2, .int v.2.1)] [])) ?_ n (v1, v2, st) q hq kx
  rintro ⟨v1, v2, st⟩ oo hbv K
  show Wk X (oC G) 3 st 4 [(0, .ref (al (oC G) 15)), (1, .int v1), (2, .int v2)] []
  have hf : l_X3_silentOnes_4  v1 v2 st = some oo := hbv
  unfold l_X3_silentOnes_4 at hf
  refine k_iload_n (pc' := 5) h dX3_silentOnes_4 rfl rfl 2 rfl ?_
  refine k_aload_n (pc' := 6) h dX3_silentOnes_5 rfl rfl 0 rfl ?_
  refine k_get (v := .int (st.1 15 2)) (pc' := 9) h dX3_silentOnes_6 rfl bC_sh fl_X3_25 rfl ?_
  refine k_icmp_ge (tgt := 34) (pc' := 12) h dX3_silentOnes_9 rfl rfl (fun c1 => ?_) (fun c1 => ?_)
  · replace hf := if_t c1 hf
    refine k_sub (lv' := [(0, .ref (al (oC G) 15)), (1, .int v1), (2, .int v2)]) [0, 1, 2] rfl ?_
    exact lp_o hf K
  · replace hf := if_f c1 hf
    refine k_aload_n (pc' := 13) h dX3_silentOnes_12 rfl rfl 0 rfl ?_
    refine k_get (v := .ref (al (oC G) 16)) (pc' := 16) h dX3_silentOnes_13 rfl bC_sh fl_X3_11 rfl ?_
    refine k_iload_n (pc' := 17) h dX3_silentOnes_16 rfl rfl 2 rfl ?_
    have g2 := gd_1 hf
    replace hf := gd_2 hf
    refine k_aald (tt := .object "TheUsual$Regular") (pc' := 18) h dX3_silentOnes_17 rfl rC_regs rfl rfl g2 ?_
    refine k_iconst (pc' := 19) h dX3_silentOnes_18 rfl ci_1 ?_
    obtain ⟨q3, hq3, hf⟩ := bd_s hf
    refine k_callV (As := [.int (1 : Int32)]) (rest := []) (rv := some (.int q3.1)) (st' := q3.2) (stk' := [.int q3.1]) (pc' := 22) h dX3_silentOnes_19 rfl ml_X3_112 wc_X2_isOf wi_X2_isOf ⟨Nat.le_of_ble_eq_true rfl, Nat.le_of_ble_eq_true rfl⟩ (bC_re (Nat.le_add_right 17 v2.toNatClampNeg) (Nat.add_lt_add_left (inb_lt g2) 17)) rfl rfl rfl rfl (Nat.le_of_ble_eq_true rfl) (fun l => c_X2_isOf l (17 + v2.toNatClampNeg) (1 : Int32) st (Nat.le_add_right 17 v2.toNatClampNeg) (Nat.add_lt_add_left (inb_lt g2) 17) _ _ hq3) rfl ?_
    refine k_if_eq (tgt := 28) (pc' := 25) h dX3_silentOnes_22 rfl rfl (fun c4 => ?_) (fun c4 => ?_)
    · replace hf := if_t c4 hf
      refine k_iinc (lv' := [(0, .ref (al (oC G) 15)), (1, .int v1), (2, .int (v2 + (1 : Int32)))]) (pc' := 31) h dX3_silentOnes_28 rfl 2 rfl (congrArg (fun z => v2 + z) ci_1) (Nat.le_of_ble_eq_true rfl) [1, 2, 0] rfl ?_
      refine k_goto (tgt := 4) h dX3_silentOnes_31 rfl ?_
      refine k_sub (lv' := [(0, .ref (al (oC G) 15)), (1, .int v1), (2, .int (v2 + (1 : Int32)))]) [0, 1, 2] rfl ?_
      exact lp_o hf K
    · replace hf := if_f c4 hf
      refine k_iinc (lv' := [(0, .ref (al (oC G) 15)), (1, .int (v1 + (1 : Int32))), (2, .int v2)]) (pc' := 28) h dX3_silentOnes_25 rfl 1 rfl (congrArg (fun z => v1 + z) ci_1) (Nat.le_of_ble_eq_true rfl) [1, 0, 2] rfl ?_
      refine k_iinc (lv' := [(0, .ref (al (oC G) 15)), (1, .int (v1 + (1 : Int32))), (2, .int (v2 + (1 : Int32)))]) (pc' := 31) h dX3_silentOnes_28 rfl 2 rfl (congrArg (fun z => v2 + z) ci_1) (Nat.le_of_ble_eq_true rfl) [1, 2, 0] rfl ?_
      refine k_goto (tgt := 4) h dX3_silentOnes_31 rfl ?_
      refine k_sub (lv' := [(0, .ref (al (oC G) 15)), (1, .int (v1 + (1 : Int32))), (2, .int (v2 + (1 : Int32)))]) [0, 1, 2] rfl ?_
      exact lp_o hf K
noncomputable def f_X3_silentOnes  (st : St) : Option (Int32 × St) :=
  ((iter (fun v : Int32 × Int32 × St => l_X3_silentOnes_4  v.1 v.2.1 v.2.2) fuel ((0 : Int32), (0 : Int32), st)).bind (fun q5 => (some (q5.1, q5.2.2))))
set_option maxHeartbeats 4000000 in
theorem c_X3_silentOnes {G : GG} (l : Launch)  (st : St)  (rr : Int32) (st' : St) (hf : f_X3_silentOnes  st = some (rr, st')) : MM l yX3_silentOnes cX3_silentOnes 3 (some .int) 1 (oC G) [.ref (al (oC G) 15)] st (some (.int rr)) st' := by
  refine mk_MM (by decide +kernel) (Nat.le_of_ble_eq_true rfl) (fun X h r => ?_)
  refine k_sub (lv' := [(0, .ref (al (oC G) 15))]) [0] rfl ?_
  unfold f_X3_silentOnes at hf
  refine k_iconst (pc' := 1) h dX3_silentOnes_0 rfl ci_0 ?_
  refine k_istore_n (lv' := [(0, .ref (al (oC G) 15)), (1, .int (0 : Int32))]) (pc' := 2) h dX3_silentOnes_1 rfl rfl (Nat.le_of_ble_eq_true rfl) [1, 0] rfl ?_
  refine k_iconst (pc' := 3) h dX3_silentOnes_2 rfl ci_0 ?_
  refine k_istore_n (lv' := [(0, .ref (al (oC G) 15)), (1, .int (0 : Int32)), (2, .int (0 : Int32))]) (pc' := 4) h dX3_silentOnes_3 rfl rfl (Nat.le_of_ble_eq_true rfl) [1, 2, 0] rfl ?_
  obtain ⟨q5, hq5, hf⟩ := bd_s hf
  refine w_X3_silentOnes_4 h   fuel (0 : Int32) (0 : Int32) st q5 hq5 ?_
  refine k_iload_n (pc' := 35) h dX3_silentOnes_34 rfl rfl 1 rfl ?_
  exact k_iret h r dX3_silentOnes_35 (lf_i hf)
noncomputable def l_X3_soursOfAll_4  (v1 : Int32) (v2 : Int32) (st : St) : Option ((Int32 × Int32 × St) ⊕ (Int32 × Int32 × St)) :=
  (if (st.1 15 2) ≤ v2 then (some (.inr (v1, v2, st))) else (gd (inb v2 6) (lw (v1 + (st.1 (17 + v2.toNatClampNeg) 7)) (fun y3 => (some (.inl (y3, v2 + (1 : Int32), st)))))))
set_option maxHeartbeats 4000000 in
theorem w_X3_soursOfAll_4 {G : GG} {X : Cx} (h : Ok X (oC G) cX3_soursOfAll RX3 3 (RM 0))    (n : Nat) (v1 : Int32) (v2 : Int32) (st : St) (q : Int32 × Int32 × St) (hq : iter (fun v : Int32 × Int32 × St => l_X3_soursOfAll_4  v.1 v.2.1 v.2.2) n (v1, v2, st) = some q) (kx : Wk X (oC G) 3 q.2.2 30 [(0, .ref (al (oC G) 15)), (1, .int q.1), (2, .int q.2.1)] []) : Wk X (oC G) 3 st 4 [(0, .ref (al (oC G) 15)), (1, .int v1), (2, .int v2)] [] := by
  refine iter_rule (hd := (fun v : Int32 × Int32 × St => Wk X (oC G) 3 v.2.2 4 [(0, .ref (al (oC G) 15)), (1, .int v.1), (2, .int v.2.1)] [])) (ex := (fun v : Int32 × Int32 × St => Wk X (oC G) 3 v.2.2 30 [(0, .ref (al (oC G) 15)), (1, .int v.1), (2, .int v.2.1)] [])) ?_ n (v1, v2, st) q hq kx
  rintro ⟨v1, v2, st⟩ oo hbv K
  show Wk X (oC G) 3 st 4 [(0, .ref (al (oC G) 15)), (1, .int v1), (2, .int v2)] []
  have hf : l_X3_soursOfAll_4  v1 v2 st = some oo := hbv
  unfold l_X3_soursOfAll_4 at hf
  refine k_iload_n (pc' := 5) h dX3_soursOfAll_4 rfl rfl 2 rfl ?_
  refine k_aload_n (pc' := 6) h dX3_soursOfAll_5 rfl rfl 0 rfl ?_
  refine k_get (v := .int (st.1 15 2)) (pc' := 9) h dX3_soursOfAll_6 rfl bC_sh fl_X3_25 rfl ?_
  refine k_icmp_ge (tgt := 30) (pc' := 12) h dX3_soursOfAll_9 rfl rfl (fun c1 => ?_) (fun c1 => ?_)
  · replace hf := if_t c1 hf
    refine k_sub (lv' := [(0, .ref (al (oC G) 15)), (1, .int v1), (2, .int v2)]) [0, 1, 2] rfl ?_
    exact lp_o hf K
  · replace hf := if_f c1 hf
    refine k_iload_n (pc' := 13) h dX3_soursOfAll_12 rfl rfl 1 rfl ?_
    refine k_aload_n (pc' := 14) h dX3_soursOfAll_13 rfl rfl 0 rfl ?_
    refine k_get (v := .ref (al (oC G) 16)) (pc' := 17) h dX3_soursOfAll_14 rfl bC_sh fl_X3_11 rfl ?_
    refine k_iload_n (pc' := 18) h dX3_soursOfAll_17 rfl rfl 2 rfl ?_
    have g2 := gd_1 hf
    replace hf := gd_2 hf
    refine k_aald (tt := .object "TheUsual$Regular") (pc' := 19) h dX3_soursOfAll_18 rfl rC_regs rfl rfl g2 ?_
    refine k_get (v := .int (st.1 (17 + v2.toNatClampNeg) 7)) (pc' := 22) h dX3_soursOfAll_19 rfl (bC_re (Nat.le_add_right 17 v2.toNatClampNeg) (Nat.add_lt_add_left (inb_lt g2) 17)) fl_X3_46 rfl ?_
    refine k_iadd (pc' := 23) h dX3_soursOfAll_22 rfl ?_
    obtain ⟨y3, hy3, hf⟩ := lw_s hf
    refine k_eqi hy3 ?_
    refine k_istore_n (lv' := [(0, .ref (al (oC G) 15)), (1, .int y3), (2, .int v2)]) (pc' := 24) h dX3_soursOfAll_23 rfl rfl (Nat.le_of_ble_eq_true rfl) [1, 0, 2] rfl ?_
    refine k_iinc (lv' := [(0, .ref (al (oC G) 15)), (1, .int y3), (2, .int (v2 + (1 : Int32)))]) (pc' := 27) h dX3_soursOfAll_24 rfl 2 rfl (congrArg (fun z => v2 + z) ci_1) (Nat.le_of_ble_eq_true rfl) [1, 2, 0] rfl ?_
    refine k_goto (tgt := 4) h dX3_soursOfAll_27 rfl ?_
    refine k_sub (lv' := [(0, .ref (al (oC G) 15)), (1, .int y3), (2, .int (v2 + (1 : Int32)))]) [0, 1, 2] rfl ?_
    exact lp_o hf K
noncomputable def f_X3_soursOfAll  (st : St) : Option (Int32 × St) :=
  ((iter (fun v : Int32 × Int32 × St => l_X3_soursOfAll_4  v.1 v.2.1 v.2.2) fuel ((0 : Int32), (0 : Int32), st)).bind (fun q4 => (some (q4.1, q4.2.2))))
set_option maxHeartbeats 4000000 in
theorem c_X3_soursOfAll {G : GG} (l : Launch)  (st : St)  (rr : Int32) (st' : St) (hf : f_X3_soursOfAll  st = some (rr, st')) : MM l yX3_soursOfAll cX3_soursOfAll 3 (some .int) 0 (oC G) [.ref (al (oC G) 15)] st (some (.int rr)) st' := by
  refine mk_MM (by decide +kernel) (Nat.le_of_ble_eq_true rfl) (fun X h r => ?_)
  refine k_sub (lv' := [(0, .ref (al (oC G) 15))]) [0] rfl ?_
  unfold f_X3_soursOfAll at hf
  refine k_iconst (pc' := 1) h dX3_soursOfAll_0 rfl ci_0 ?_
  refine k_istore_n (lv' := [(0, .ref (al (oC G) 15)), (1, .int (0 : Int32))]) (pc' := 2) h dX3_soursOfAll_1 rfl rfl (Nat.le_of_ble_eq_true rfl) [1, 0] rfl ?_
  refine k_iconst (pc' := 3) h dX3_soursOfAll_2 rfl ci_0 ?_
  refine k_istore_n (lv' := [(0, .ref (al (oC G) 15)), (1, .int (0 : Int32)), (2, .int (0 : Int32))]) (pc' := 4) h dX3_soursOfAll_3 rfl rfl (Nat.le_of_ble_eq_true rfl) [1, 2, 0] rfl ?_
  obtain ⟨q4, hq4, hf⟩ := bd_s hf
  refine w_X3_soursOfAll_4 h   fuel (0 : Int32) (0 : Int32) st q4 hq4 ?_
  refine k_iload_n (pc' := 31) h dX3_soursOfAll_30 rfl rfl 1 rfl ?_
  exact k_iret h r dX3_soursOfAll_31 (lf_i hf)
noncomputable def f_X5_isRow (x0 : Int32) (st : St) : Option (Int32 × St) :=
  (if x0 < 0 then (some ((0 : Int32), st)) else (if (6 : Int32) ≤ x0 then (some ((0 : Int32), st)) else (some ((1 : Int32), st))))
set_option maxHeartbeats 4000000 in
theorem c_X5_isRow {G : GG} (l : Launch) (x0 : Int32) (st : St)  (rr : Int32) (st' : St) (hf : f_X5_isRow x0 st = some (rr, st')) : MM l yX5_isRow cX5_isRow 1 (some .boolean) 0 (oC G) [.int x0] st (some (.int rr)) st' := by
  refine mk_MM (by decide +kernel) (Nat.le_of_ble_eq_true rfl) (fun X h r => ?_)
  refine k_sub (lv' := [(0, .int x0)]) [0] rfl ?_
  unfold f_X5_isRow at hf
  refine k_iload_n (pc' := 1) h dX5_isRow_0 rfl rfl 0 rfl ?_
  refine k_if_lt (tgt := 14) (pc' := 4) h dX5_isRow_1 rfl rfl (fun c1 => ?_) (fun c1 => ?_)
  · replace hf := if_t c1 hf
    refine k_iconst (pc' := 15) h dX5_isRow_14 rfl ci_0 ?_
    exact k_zret h r dX5_isRow_15 (by decide) (lf_i hf)
  · replace hf := if_f c1 hf
    refine k_iload_n (pc' := 5) h dX5_isRow_4 rfl rfl 0 rfl ?_
    refine k_bipush (pc' := 7) h dX5_isRow_5 rfl cb_6 ?_
    refine k_icmp_ge (tgt := 14) (pc' := 10) h dX5_isRow_7 rfl rfl (fun c2 => ?_) (fun c2 => ?_)
    · replace hf := if_t c2 hf
      refine k_iconst (pc' := 15) h dX5_isRow_14 rfl ci_0 ?_
      exact k_zret h r dX5_isRow_15 (by decide) (lf_i hf)
    · replace hf := if_f c2 hf
      refine k_iconst (pc' := 11) h dX5_isRow_10 rfl ci_1 ?_
      refine k_goto (tgt := 15) h dX5_isRow_11 rfl ?_
      exact k_zret h r dX5_isRow_15 (by decide) (lf_i hf)
noncomputable def l_X5_makeRow_2 (p1 : Int32) (p2 : Int32) (v3 : Int32) (st : St) : Option ((Int32 × St) ⊕ (Int32 × St)) :=
  (if p2 ≤ v3 then (some (.inr (v3, st))) else (gd (inb p1 6) (gd (inb v3 40) (ls (sA st (2 + p1.toNatClampNeg) (upd (st.1 (2 + p1.toNatClampNeg)) v3.toNatClampNeg (0 : Int32))) (fun s4 => (some (.inl (v3 + (1 : Int32), s4))))))))
set_option maxHeartbeats 4000000 in
theorem w_X5_makeRow_2 {G : GG} {X : Cx} (h : Ok X (oC G) cX5_makeRow RX5 4 (RM 0))  (p1 : Int32) (p2 : Int32)  (n : Nat) (v3 : Int32) (st : St) (q : Int32 × St) (hq : iter (fun v : Int32 × St => l_X5_makeRow_2 p1 p2 v.1 v.2) n (v3, st) = some q) (kx : Wk X (oC G) 4 q.2 22 [(0, .ref (al (oC G) 0)), (1, .int p1), (2, .int p2), (3, .int q.1)] []) : Wk X (oC G) 4 st 2 [(0, .ref (al (oC G) 0)), (1, .int p1), (2, .int p2), (3, .int v3)] [] := by
  refine iter_rule (hd := (fun v : Int32 × St => Wk X (oC G) 4 v.2 2 [(0, .ref (al (oC G) 0)), (1, .int p1), (2, .int p2), (3, .int v.1)] [])) (ex := (fun v : Int32 × St => Wk X (oC G) 4 v.2 22 [(0, .ref (al (oC G) 0)), (1, .int p1), (2, .int p2), (3, .int v.1)] [])) ?_ n (v3, st) q hq kx
  rintro ⟨v3, st⟩ oo hbv K
  show Wk X (oC G) 4 st 2 [(0, .ref (al (oC G) 0)), (1, .int p1), (2, .int p2), (3, .int v3)] []
  have hf : l_X5_makeRow_2 p1 p2 v3 st = some oo := hbv
  unfold l_X5_makeRow_2 at hf
  refine k_iload_n (pc' := 3) h dX5_makeRow_2 rfl rfl 3 rfl ?_
  refine k_iload_n (pc' := 4) h dX5_makeRow_3 rfl rfl 2 rfl ?_
  refine k_icmp_ge (tgt := 22) (pc' := 7) h dX5_makeRow_4 rfl rfl (fun c1 => ?_) (fun c1 => ?_)
  · replace hf := if_t c1 hf
    refine k_sub (lv' := [(0, .ref (al (oC G) 0)), (1, .int p1), (2, .int p2), (3, .int v3)]) [0, 1, 2, 3] rfl ?_
    exact lp_o hf K
  · replace hf := if_f c1 hf
    refine k_aload_n (pc' := 8) h dX5_makeRow_7 rfl rfl 0 rfl ?_
    refine k_get (v := .ref (al (oC G) 1)) (pc' := 11) h dX5_makeRow_8 rfl bC_us fl_X5_11 rfl ?_
    refine k_iload_n (pc' := 12) h dX5_makeRow_11 rfl rfl 1 rfl ?_
    have g2 := gd_1 hf
    replace hf := gd_2 hf
    refine k_aald (tt := .array .int) (pc' := 13) h dX5_makeRow_12 rfl rC_rows rfl rfl g2 ?_
    refine k_iload_n (pc' := 14) h dX5_makeRow_13 rfl rfl 3 rfl ?_
    refine k_iconst (pc' := 15) h dX5_makeRow_14 rfl ci_0 ?_
    have g3 := gd_1 hf
    replace hf := gd_2 hf
    refine k_iast (pc' := 16) h dX5_makeRow_15 rfl (aC_row (Nat.le_add_right 2 p1.toNatClampNeg) (Nat.add_lt_add_left (inb_lt g2) 2)) g3 ?_
    obtain ⟨s4, hs4, hf⟩ := ls_s hf
    refine k_st hs4 ?_
    refine k_iinc (lv' := [(0, .ref (al (oC G) 0)), (1, .int p1), (2, .int p2), (3, .int (v3 + (1 : Int32)))]) (pc' := 19) h dX5_makeRow_16 rfl 3 rfl (congrArg (fun z => v3 + z) ci_1) (Nat.le_of_ble_eq_true rfl) [1, 2, 3, 0] rfl ?_
    refine k_goto (tgt := 2) h dX5_makeRow_19 rfl ?_
    refine k_sub (lv' := [(0, .ref (al (oC G) 0)), (1, .int p1), (2, .int p2), (3, .int (v3 + (1 : Int32)))]) [0, 1, 2, 3] rfl ?_
    exact lp_o hf K
noncomputable def f_X5_makeRow (x0 : Int32) (x1 : Int32) (st : St) : Option (St) :=
  ((iter (fun v : Int32 × St => l_X5_makeRow_2 x0 x1 v.1 v.2) fuel ((0 : Int32), st)).bind (fun q5 => (gd (inb x0 6) (ls (sA q5.2 8 (upd (q5.2.1 8) x0.toNatClampNeg x1)) (fun s7 => (some s7))))))
set_option maxHeartbeats 4000000 in
theorem c_X5_makeRow {G : GG} (l : Launch) (x0 : Int32) (x1 : Int32) (st : St)  (st' : St) (hf : f_X5_makeRow x0 x1 st = some st') : MM l yX5_makeRow cX5_makeRow 4 none 0 (oC G) [.ref (al (oC G) 0), .int x0, .int x1] st none st' := by
  refine mk_MM (by decide +kernel) (Nat.le_of_ble_eq_true rfl) (fun X h r => ?_)
  refine k_sub (lv' := [(0, .ref (al (oC G) 0)), (1, .int x0), (2, .int x1)]) [0, 1, 2] rfl ?_
  unfold f_X5_makeRow at hf
  refine k_iconst (pc' := 1) h dX5_makeRow_0 rfl ci_0 ?_
  refine k_istore_n (lv' := [(0, .ref (al (oC G) 0)), (1, .int x0), (2, .int x1), (3, .int (0 : Int32))]) (pc' := 2) h dX5_makeRow_1 rfl rfl (Nat.le_of_ble_eq_true rfl) [1, 2, 3, 0] rfl ?_
  obtain ⟨q5, hq5, hf⟩ := bd_s hf
  refine w_X5_makeRow_2 h x0 x1  fuel (0 : Int32) st q5 hq5 ?_
  refine k_aload_n (pc' := 23) h dX5_makeRow_22 rfl rfl 0 rfl ?_
  refine k_get (v := .ref (al (oC G) 8)) (pc' := 26) h dX5_makeRow_23 rfl bC_us fl_X5_14 rfl ?_
  refine k_iload_n (pc' := 27) h dX5_makeRow_26 rfl rfl 1 rfl ?_
  refine k_iload_n (pc' := 28) h dX5_makeRow_27 rfl rfl 2 rfl ?_
  have g6 := gd_1 hf
  replace hf := gd_2 hf
  refine k_iast (pc' := 29) h dX5_makeRow_28 rfl aC_rs g6 ?_
  obtain ⟨s7, hs7, hf⟩ := ls_s hf
  refine k_st hs7 ?_
  exact k_vret h r dX5_makeRow_29 (lf_v hf)
noncomputable def f_X5_found (x0 : Int32) (st : St) : Option (Int32 × St) :=
  (ls (sA st 0 (upd (st.1 0) 8 x0)) (fun s1 => (gd (inb x0 6) (gd (inb x0 6) (ls (sA s1 43 (upd (s1.1 43) x0.toNatClampNeg ((s1.1 43 x0.toNatClampNeg) + (1 : Int32)))) (fun s4 => (some ((-3 : Int32), s4))))))))
set_option maxHeartbeats 4000000 in
theorem c_X5_found {G : GG} (l : Launch) (x0 : Int32) (st : St)  (rr : Int32) (st' : St) (hf : f_X5_found x0 st = some (rr, st')) : MM l yX5_found cX5_found 2 (some .int) 0 (oC G) [.ref (al (oC G) 0), .int x0] st (some (.int rr)) st' := by
  refine mk_MM (by decide +kernel) (Nat.le_of_ble_eq_true rfl) (fun X h r => ?_)
  refine k_sub (lv' := [(0, .ref (al (oC G) 0)), (1, .int x0)]) [0, 1] rfl ?_
  unfold f_X5_found at hf
  refine k_aload_n (pc' := 1) h dX5_found_0 rfl rfl 0 rfl ?_
  refine k_iload_n (pc' := 2) h dX5_found_1 rfl rfl 1 rfl ?_
  refine k_put (pc' := 5) h dX5_found_2 rfl bC_us fp_X5_49 sf_us_8 sj_us_8 ?_
  obtain ⟨s1, hs1, hf⟩ := ls_s hf
  refine k_st hs1 ?_
  refine k_aload_n (pc' := 6) h dX5_found_5 rfl rfl 0 rfl ?_
  refine k_get (v := .ref (al (oC G) 43)) (pc' := 9) h dX5_found_6 rfl bC_us fl_X5_46 rfl ?_
  refine k_iload_n (pc' := 10) h dX5_found_9 rfl rfl 1 rfl ?_
  refine k_dup2 (pc' := 11) h dX5_found_10 rfl rfl rfl ?_
  have g2 := gd_1 hf
  replace hf := gd_2 hf
  refine k_iald (pc' := 12) h dX5_found_11 rfl aC_fc g2 ?_
  refine k_iconst (pc' := 13) h dX5_found_12 rfl ci_1 ?_
  refine k_iadd (pc' := 14) h dX5_found_13 rfl ?_
  have g3 := gd_1 hf
  replace hf := gd_2 hf
  refine k_iast (pc' := 15) h dX5_found_14 rfl aC_fc g3 ?_
  obtain ⟨s4, hs4, hf⟩ := ls_s hf
  refine k_st hs4 ?_
  refine k_bipush (pc' := 17) h dX5_found_15 rfl cb_m3 ?_
  exact k_iret h r dX5_found_17 (lf_i hf)
noncomputable def f_X5_row (x0 : Int32) (x1 : Int32) (st : St) : Option (Int32 × St) :=
  ((f_X5_isRow x0 st).bind (fun q1 => (if q1.1 = 0 then (some ((-1 : Int32), q1.2)) else (if x1 ≤ (40 : Int32) then (if 0 ≤ x1 then ((f_X5_makeRow x0 x1 q1.2).bind (fun q5 => (some (x1, q5)))) else ((f_X5_found (5 : Int32) q1.2).bind (fun q6 => (some (q6.1, q6.2))))) else (some ((-1 : Int32), q1.2))))))
set_option maxHeartbeats 4000000 in
theorem c_X5_row {G : GG} (l : Launch) (x0 : Int32) (x1 : Int32) (st : St)  (rr : Int32) (st' : St) (hf : f_X5_row x0 x1 st = some (rr, st')) : MM l yX5_row cX5_row 3 (some .int) 1 (oC G) [.ref (al (oC G) 0), .int x0, .int x1] st (some (.int rr)) st' := by
  refine mk_MM (by decide +kernel) (Nat.le_of_ble_eq_true rfl) (fun X h r => ?_)
  refine k_sub (lv' := [(0, .ref (al (oC G) 0)), (1, .int x0), (2, .int x1)]) [0, 1, 2] rfl ?_
  unfold f_X5_row at hf
  refine k_iload_n (pc' := 1) h dX5_row_0 rfl rfl 1 rfl ?_
  obtain ⟨q1, hq1, hf⟩ := bd_s hf
  refine k_callS (As := [.int x0]) (rest := []) (rv := some (.int q1.1)) (st' := q1.2) (stk' := [.int q1.1]) (pc' := 4) h dX5_row_1 rfl ml_X5_64 wc_X5_isRow ws_X5_isRow ⟨Nat.le_of_ble_eq_true rfl, Nat.le_of_ble_eq_true rfl⟩ rfl rfl (Nat.le_of_ble_eq_true rfl) (fun l => c_X5_isRow l x0 st  _ _ hq1) rfl ?_
  refine k_if_eq (tgt := 13) (pc' := 7) h dX5_row_4 rfl rfl (fun c2 => ?_) (fun c2 => ?_)
  · replace hf := if_t c2 hf
    refine k_iconst (pc' := 14) h dX5_row_13 rfl ci_m1 ?_
    exact k_iret h r dX5_row_14 (lf_i hf)
  · replace hf := if_f c2 hf
    refine k_iload_n (pc' := 8) h dX5_row_7 rfl rfl 2 rfl ?_
    refine k_bipush (pc' := 10) h dX5_row_8 rfl cb_40 ?_
    refine k_icmp_le (tgt := 15) (pc' := 13) h dX5_row_10 rfl rfl (fun c3 => ?_) (fun c3 => ?_)
    · replace hf := if_t c3 hf
      refine k_iload_n (pc' := 16) h dX5_row_15 rfl rfl 2 rfl ?_
      refine k_if_ge (tgt := 25) (pc' := 19) h dX5_row_16 rfl rfl (fun c4 => ?_) (fun c4 => ?_)
      · replace hf := if_t c4 hf
        refine k_aload_n (pc' := 26) h dX5_row_25 rfl rfl 0 rfl ?_
        refine k_iload_n (pc' := 27) h dX5_row_26 rfl rfl 1 rfl ?_
        refine k_iload_n (pc' := 28) h dX5_row_27 rfl rfl 2 rfl ?_
        obtain ⟨q5, hq5, hf⟩ := bd_s hf
        refine k_callV (As := [.int x0, .int x1]) (rest := []) (rv := none) (st' := q5) (stk' := []) (pc' := 31) h dX5_row_28 rfl ml_X5_72 wc_X5_makeRow wi_X5_makeRow ⟨Nat.le_of_ble_eq_true rfl, Nat.le_of_ble_eq_true rfl⟩ bC_us rfl rfl rfl rfl (Nat.le_of_ble_eq_true rfl) (fun l => c_X5_makeRow l x0 x1 q1.2  _ hq5) rfl ?_
        refine k_iload_n (pc' := 32) h dX5_row_31 rfl rfl 2 rfl ?_
        exact k_iret h r dX5_row_32 (lf_i hf)
      · replace hf := if_f c4 hf
        refine k_aload_n (pc' := 20) h dX5_row_19 rfl rfl 0 rfl ?_
        refine k_iconst (pc' := 21) h dX5_row_20 rfl ci_5 ?_
        obtain ⟨q6, hq6, hf⟩ := bd_s hf
        refine k_callV (As := [.int (5 : Int32)]) (rest := []) (rv := some (.int q6.1)) (st' := q6.2) (stk' := [.int q6.1]) (pc' := 24) h dX5_row_21 rfl ml_X5_68 wc_X5_found wi_X5_found ⟨Nat.le_of_ble_eq_true rfl, Nat.le_of_ble_eq_true rfl⟩ bC_us rfl rfl rfl rfl (Nat.le_of_ble_eq_true rfl) (fun l => c_X5_found l (5 : Int32) q1.2  _ _ hq6) rfl ?_
        exact k_iret h r dX5_row_24 (lf_i hf)
    · replace hf := if_f c3 hf
      refine k_iconst (pc' := 14) h dX5_row_13 rfl ci_m1 ?_
      exact k_iret h r dX5_row_14 (lf_i hf)
noncomputable def f_X5_rowRefusal (x0 : Int32) (st : St) : Option (Int32 × St) :=
  ((f_X5_isRow x0 st).bind (fun q1 => (if q1.1 = 0 then (some ((-1 : Int32), q1.2)) else (gd (inb x0 6) (if 0 ≤ (q1.2.1 8 x0.toNatClampNeg) then (some ((0 : Int32), q1.2)) else ((f_X5_found (1 : Int32) q1.2).bind (fun q5 => (some (q5.1, q5.2)))))))))
set_option maxHeartbeats 4000000 in
theorem c_X5_rowRefusal {G : GG} (l : Launch) (x0 : Int32) (st : St)  (rr : Int32) (st' : St) (hf : f_X5_rowRefusal x0 st = some (rr, st')) : MM l yX5_rowRefusal cX5_rowRefusal 2 (some .int) 1 (oC G) [.ref (al (oC G) 0), .int x0] st (some (.int rr)) st' := by
  refine mk_MM (by decide +kernel) (Nat.le_of_ble_eq_true rfl) (fun X h r => ?_)
  refine k_sub (lv' := [(0, .ref (al (oC G) 0)), (1, .int x0)]) [0, 1] rfl ?_
  unfold f_X5_rowRefusal at hf
  refine k_iload_n (pc' := 1) h dX5_rowRefusal_0 rfl rfl 1 rfl ?_
  obtain ⟨q1, hq1, hf⟩ := bd_s hf
  refine k_callS (As := [.int x0]) (rest := []) (rv := some (.int q1.1)) (st' := q1.2) (stk' := [.int q1.1]) (pc' := 4) h dX5_rowRefusal_1 rfl ml_X5_64 wc_X5_isRow ws_X5_isRow ⟨Nat.le_of_ble_eq_true rfl, Nat.le_of_ble_eq_true rfl⟩ rfl rfl (Nat.le_of_ble_eq_true rfl) (fun l => c_X5_isRow l x0 st  _ _ hq1) rfl ?_
  refine k_if_ne (tgt := 9) (pc' := 7) h dX5_rowRefusal_4 rfl rfl (fun c2 => ?_) (fun c2 => ?_)
  · replace hf := if_f c2 hf
    refine k_aload_n (pc' := 10) h dX5_rowRefusal_9 rfl rfl 0 rfl ?_
    refine k_get (v := .ref (al (oC G) 8)) (pc' := 13) h dX5_rowRefusal_10 rfl bC_us fl_X5_14 rfl ?_
    refine k_iload_n (pc' := 14) h dX5_rowRefusal_13 rfl rfl 1 rfl ?_
    have g3 := gd_1 hf
    replace hf := gd_2 hf
    refine k_iald (pc' := 15) h dX5_rowRefusal_14 rfl aC_rs g3 ?_
    refine k_if_ge (tgt := 26) (pc' := 18) h dX5_rowRefusal_15 rfl rfl (fun c4 => ?_) (fun c4 => ?_)
    · replace hf := if_t c4 hf
      refine k_iconst (pc' := 27) h dX5_rowRefusal_26 rfl ci_0 ?_
      exact k_iret h r dX5_rowRefusal_27 (lf_i hf)
    · replace hf := if_f c4 hf
      refine k_aload_n (pc' := 19) h dX5_rowRefusal_18 rfl rfl 0 rfl ?_
      refine k_iconst (pc' := 20) h dX5_rowRefusal_19 rfl ci_1 ?_
      obtain ⟨q5, hq5, hf⟩ := bd_s hf
      refine k_callV (As := [.int (1 : Int32)]) (rest := []) (rv := some (.int q5.1)) (st' := q5.2) (stk' := [.int q5.1]) (pc' := 23) h dX5_rowRefusal_20 rfl ml_X5_68 wc_X5_found wi_X5_found ⟨Nat.le_of_ble_eq_true rfl, Nat.le_of_ble_eq_true rfl⟩ bC_us rfl rfl rfl rfl (Nat.le_of_ble_eq_true rfl) (fun l => c_X5_found l (1 : Int32) q1.2  _ _ hq5) rfl ?_
      refine k_goto (tgt := 27) h dX5_rowRefusal_23 rfl ?_
      exact k_iret h r dX5_rowRefusal_27 (lf_i hf)
  · replace hf := if_t c2 hf
    refine k_iconst (pc' := 8) h dX5_rowRefusal_7 rfl ci_m1 ?_
    exact k_iret h r dX5_rowRefusal_8 (lf_i hf)
noncomputable def f_X5_placeRefusal (x0 : Int32) (x1 : Int32) (st : St) : Option (Int32 × St) :=
  ((f_X5_rowRefusal x0 st).bind (fun q1 => (if q1.1 = 0 then (if x1 < 0 then ((f_X5_found (2 : Int32) q1.2).bind (fun q4 => (some (q4.1, q4.2)))) else (gd (inb x0 6) (if x1 < (q1.2.1 8 x0.toNatClampNeg) then (some ((0 : Int32), q1.2)) else ((f_X5_found (2 : Int32) q1.2).bind (fun q7 => (some (q7.1, q7.2))))))) else (some (q1.1, q1.2)))))
set_option maxHeartbeats 4000000 in
theorem c_X5_placeRefusal {G : GG} (l : Launch) (x0 : Int32) (x1 : Int32) (st : St)  (rr : Int32) (st' : St) (hf : f_X5_placeRefusal x0 x1 st = some (rr, st')) : MM l yX5_placeRefusal cX5_placeRefusal 4 (some .int) 2 (oC G) [.ref (al (oC G) 0), .int x0, .int x1] st (some (.int rr)) st' := by
  refine mk_MM (by decide +kernel) (Nat.le_of_ble_eq_true rfl) (fun X h r => ?_)
  refine k_sub (lv' := [(0, .ref (al (oC G) 0)), (1, .int x0), (2, .int x1)]) [0, 1, 2] rfl ?_
  unfold f_X5_placeRefusal at hf
  refine k_aload_n (pc' := 1) h dX5_placeRefusal_0 rfl rfl 0 rfl ?_
  refine k_iload_n (pc' := 2) h dX5_placeRefusal_1 rfl rfl 1 rfl ?_
  obtain ⟨q1, hq1, hf⟩ := bd_s hf
  refine k_callV (As := [.int x0]) (rest := []) (rv := some (.int q1.1)) (st' := q1.2) (stk' := [.int q1.1]) (pc' := 5) h dX5_placeRefusal_2 rfl ml_X5_80 wc_X5_rowRefusal wi_X5_rowRefusal ⟨Nat.le_of_ble_eq_true rfl, Nat.le_of_ble_eq_true rfl⟩ bC_us rfl rfl rfl rfl (Nat.le_of_ble_eq_true rfl) (fun l => c_X5_rowRefusal l x0 st  _ _ hq1) rfl ?_
  refine k_istore_n (lv' := [(0, .ref (al (oC G) 0)), (1, .int x0), (2, .int x1), (3, .int q1.1)]) (pc' := 6) h dX5_placeRefusal_5 rfl rfl (Nat.le_of_ble_eq_true rfl) [1, 2, 3, 0] rfl ?_
  refine k_iload_n (pc' := 7) h dX5_placeRefusal_6 rfl rfl 3 rfl ?_
  refine k_if_eq (tgt := 12) (pc' := 10) h dX5_placeRefusal_7 rfl rfl (fun c2 => ?_) (fun c2 => ?_)
  · replace hf := if_t c2 hf
    refine k_iload_n (pc' := 13) h dX5_placeRefusal_12 rfl rfl 2 rfl ?_
    refine k_if_lt (tgt := 26) (pc' := 16) h dX5_placeRefusal_13 rfl rfl (fun c3 => ?_) (fun c3 => ?_)
    · replace hf := if_t c3 hf
      refine k_aload_n (pc' := 27) h dX5_placeRefusal_26 rfl rfl 0 rfl ?_
      refine k_iconst (pc' := 28) h dX5_placeRefusal_27 rfl ci_2 ?_
      obtain ⟨q4, hq4, hf⟩ := bd_s hf
      refine k_callV (As := [.int (2 : Int32)]) (rest := []) (rv := some (.int q4.1)) (st' := q4.2) (stk' := [.int q4.1]) (pc' := 31) h dX5_placeRefusal_28 rfl ml_X5_68 wc_X5_found wi_X5_found ⟨Nat.le_of_ble_eq_true rfl, Nat.le_of_ble_eq_true rfl⟩ bC_us rfl rfl rfl rfl (Nat.le_of_ble_eq_true rfl) (fun l => c_X5_found l (2 : Int32) q1.2  _ _ hq4) rfl ?_
      refine k_goto (tgt := 35) h dX5_placeRefusal_31 rfl ?_
      exact k_iret h r dX5_placeRefusal_35 (lf_i hf)
    · replace hf := if_f c3 hf
      refine k_iload_n (pc' := 17) h dX5_placeRefusal_16 rfl rfl 2 rfl ?_
      refine k_aload_n (pc' := 18) h dX5_placeRefusal_17 rfl rfl 0 rfl ?_
      refine k_get (v := .ref (al (oC G) 8)) (pc' := 21) h dX5_placeRefusal_18 rfl bC_us fl_X5_14 rfl ?_
      refine k_iload_n (pc' := 22) h dX5_placeRefusal_21 rfl rfl 1 rfl ?_
      have g5 := gd_1 hf
      replace hf := gd_2 hf
      refine k_iald (pc' := 23) h dX5_placeRefusal_22 rfl aC_rs g5 ?_
      refine k_icmp_lt (tgt := 34) (pc' := 26) h dX5_placeRefusal_23 rfl rfl (fun c6 => ?_) (fun c6 => ?_)
      · replace hf := if_t c6 hf
        refine k_iconst (pc' := 35) h dX5_placeRefusal_34 rfl ci_0 ?_
        exact k_iret h r dX5_placeRefusal_35 (lf_i hf)
      · replace hf := if_f c6 hf
        refine k_aload_n (pc' := 27) h dX5_placeRefusal_26 rfl rfl 0 rfl ?_
        refine k_iconst (pc' := 28) h dX5_placeRefusal_27 rfl ci_2 ?_
        obtain ⟨q7, hq7, hf⟩ := bd_s hf
        refine k_callV (As := [.int (2 : Int32)]) (rest := []) (rv := some (.int q7.1)) (st' := q7.2) (stk' := [.int q7.1]) (pc' := 31) h dX5_placeRefusal_28 rfl ml_X5_68 wc_X5_found wi_X5_found ⟨Nat.le_of_ble_eq_true rfl, Nat.le_of_ble_eq_true rfl⟩ bC_us rfl rfl rfl rfl (Nat.le_of_ble_eq_true rfl) (fun l => c_X5_found l (2 : Int32) q1.2  _ _ hq7) rfl ?_
        refine k_goto (tgt := 35) h dX5_placeRefusal_31 rfl ?_
        exact k_iret h r dX5_placeRefusal_35 (lf_i hf)
  · replace hf := if_f c2 hf
    refine k_iload_n (pc' := 11) h dX5_placeRefusal_10 rfl rfl 3 rfl ?_
    exact k_iret h r dX5_placeRefusal_11 (lf_i hf)
noncomputable def f_X5_lay (x0 : Int32) (x1 : Int32) (x2 : Int32) (st : St) : Option (Int32 × St) :=
  ((f_X5_placeRefusal x0 x1 st).bind (fun q1 => (if q1.1 = 0 then (gd (inb x0 6) (gd (inb x1 40) (ls (sA q1.2 0 (upd (q1.2.1 0) 9 (q1.2.1 (2 + x0.toNatClampNeg) x1.toNatClampNeg))) (fun s5 => (gd (inb x0 6) (gd (inb x1 40) (ls (sA s5 (2 + x0.toNatClampNeg) (upd (s5.1 (2 + x0.toNatClampNeg)) x1.toNatClampNeg x2)) (fun s8 => (some ((1 : Int32), s8)))))))))) else (some (q1.1, q1.2)))))
set_option maxHeartbeats 4000000 in
theorem c_X5_lay {G : GG} (l : Launch) (x0 : Int32) (x1 : Int32) (x2 : Int32) (st : St)  (rr : Int32) (st' : St) (hf : f_X5_lay x0 x1 x2 st = some (rr, st')) : MM l yX5_lay cX5_lay 5 (some .int) 3 (oC G) [.ref (al (oC G) 0), .int x0, .int x1, .int x2] st (some (.int rr)) st' := by
  refine mk_MM (by decide +kernel) (Nat.le_of_ble_eq_true rfl) (fun X h r => ?_)
  refine k_sub (lv' := [(0, .ref (al (oC G) 0)), (1, .int x0), (2, .int x1), (3, .int x2)]) [0, 1, 2, 3] rfl ?_
  unfold f_X5_lay at hf
  refine k_aload_n (pc' := 1) h dX5_lay_0 rfl rfl 0 rfl ?_
  refine k_iload_n (pc' := 2) h dX5_lay_1 rfl rfl 1 rfl ?_
  refine k_iload_n (pc' := 3) h dX5_lay_2 rfl rfl 2 rfl ?_
  obtain ⟨q1, hq1, hf⟩ := bd_s hf
  refine k_callV (As := [.int x0, .int x1]) (rest := []) (rv := some (.int q1.1)) (st' := q1.2) (stk' := [.int q1.1]) (pc' := 6) h dX5_lay_3 rfl ml_X5_76 wc_X5_placeRefusal wi_X5_placeRefusal ⟨Nat.le_of_ble_eq_true rfl, Nat.le_of_ble_eq_true rfl⟩ bC_us rfl rfl rfl rfl (Nat.le_of_ble_eq_true rfl) (fun l => c_X5_placeRefusal l x0 x1 st  _ _ hq1) rfl ?_
  refine k_istore (lv' := [(0, .ref (al (oC G) 0)), (1, .int x0), (2, .int x1), (3, .int x2), (4, .int q1.1)]) (pc' := 8) h dX5_lay_6 rfl (Nat.le_of_ble_eq_true rfl) [1, 2, 3, 4, 0] rfl ?_
  refine k_iload (pc' := 10) h dX5_lay_8 rfl 4 rfl ?_
  refine k_if_eq (tgt := 16) (pc' := 13) h dX5_lay_10 rfl rfl (fun c2 => ?_) (fun c2 => ?_)
  · replace hf := if_t c2 hf
    refine k_aload_n (pc' := 17) h dX5_lay_16 rfl rfl 0 rfl ?_
    refine k_aload_n (pc' := 18) h dX5_lay_17 rfl rfl 0 rfl ?_
    refine k_get (v := .ref (al (oC G) 1)) (pc' := 21) h dX5_lay_18 rfl bC_us fl_X5_11 rfl ?_
    refine k_iload_n (pc' := 22) h dX5_lay_21 rfl rfl 1 rfl ?_
    have g3 := gd_1 hf
    replace hf := gd_2 hf
    refine k_aald (tt := .array .int) (pc' := 23) h dX5_lay_22 rfl rC_rows rfl rfl g3 ?_
    refine k_iload_n (pc' := 24) h dX5_lay_23 rfl rfl 2 rfl ?_
    have g4 := gd_1 hf
    replace hf := gd_2 hf
    refine k_iald (pc' := 25) h dX5_lay_24 rfl (aC_row (Nat.le_add_right 2 x0.toNatClampNeg) (Nat.add_lt_add_left (inb_lt g3) 2)) g4 ?_
    refine k_put (pc' := 28) h dX5_lay_25 rfl bC_us fp_X5_53 sf_us_9 sj_us_9 ?_
    obtain ⟨s5, hs5, hf⟩ := ls_s hf
    refine k_st hs5 ?_
    refine k_aload_n (pc' := 29) h dX5_lay_28 rfl rfl 0 rfl ?_
    refine k_get (v := .ref (al (oC G) 1)) (pc' := 32) h dX5_lay_29 rfl bC_us fl_X5_11 rfl ?_
    refine k_iload_n (pc' := 33) h dX5_lay_32 rfl rfl 1 rfl ?_
    have g6 := gd_1 hf
    replace hf := gd_2 hf
    refine k_aald (tt := .array .int) (pc' := 34) h dX5_lay_33 rfl rC_rows rfl rfl g6 ?_
    refine k_iload_n (pc' := 35) h dX5_lay_34 rfl rfl 2 rfl ?_
    refine k_iload_n (pc' := 36) h dX5_lay_35 rfl rfl 3 rfl ?_
    have g7 := gd_1 hf
    replace hf := gd_2 hf
    refine k_iast (pc' := 37) h dX5_lay_36 rfl (aC_row (Nat.le_add_right 2 x0.toNatClampNeg) (Nat.add_lt_add_left (inb_lt g6) 2)) g7 ?_
    obtain ⟨s8, hs8, hf⟩ := ls_s hf
    refine k_st hs8 ?_
    refine k_iconst (pc' := 38) h dX5_lay_37 rfl ci_1 ?_
    exact k_iret h r dX5_lay_38 (lf_i hf)
  · replace hf := if_f c2 hf
    refine k_iload (pc' := 15) h dX5_lay_13 rfl 4 rfl ?_
    exact k_iret h r dX5_lay_15 (lf_i hf)
noncomputable def f_X5_at (x0 : Int32) (x1 : Int32) (st : St) : Option (Int32 × St) :=
  ((f_X5_placeRefusal x0 x1 st).bind (fun q1 => (if q1.1 = 0 then (gd (inb x0 6) (gd (inb x1 40) (ls (sA q1.2 0 (upd (q1.2.1 0) 9 (q1.2.1 (2 + x0.toNatClampNeg) x1.toNatClampNeg))) (fun s5 => (some ((1 : Int32), s5)))))) else (some (q1.1, q1.2)))))
set_option maxHeartbeats 4000000 in
theorem c_X5_at {G : GG} (l : Launch) (x0 : Int32) (x1 : Int32) (st : St)  (rr : Int32) (st' : St) (hf : f_X5_at x0 x1 st = some (rr, st')) : MM l yX5_at cX5_at 4 (some .int) 3 (oC G) [.ref (al (oC G) 0), .int x0, .int x1] st (some (.int rr)) st' := by
  refine mk_MM (by decide +kernel) (Nat.le_of_ble_eq_true rfl) (fun X h r => ?_)
  refine k_sub (lv' := [(0, .ref (al (oC G) 0)), (1, .int x0), (2, .int x1)]) [0, 1, 2] rfl ?_
  unfold f_X5_at at hf
  refine k_aload_n (pc' := 1) h dX5_at_0 rfl rfl 0 rfl ?_
  refine k_iload_n (pc' := 2) h dX5_at_1 rfl rfl 1 rfl ?_
  refine k_iload_n (pc' := 3) h dX5_at_2 rfl rfl 2 rfl ?_
  obtain ⟨q1, hq1, hf⟩ := bd_s hf
  refine k_callV (As := [.int x0, .int x1]) (rest := []) (rv := some (.int q1.1)) (st' := q1.2) (stk' := [.int q1.1]) (pc' := 6) h dX5_at_3 rfl ml_X5_76 wc_X5_placeRefusal wi_X5_placeRefusal ⟨Nat.le_of_ble_eq_true rfl, Nat.le_of_ble_eq_true rfl⟩ bC_us rfl rfl rfl rfl (Nat.le_of_ble_eq_true rfl) (fun l => c_X5_placeRefusal l x0 x1 st  _ _ hq1) rfl ?_
  refine k_istore_n (lv' := [(0, .ref (al (oC G) 0)), (1, .int x0), (2, .int x1), (3, .int q1.1)]) (pc' := 7) h dX5_at_6 rfl rfl (Nat.le_of_ble_eq_true rfl) [1, 2, 3, 0] rfl ?_
  refine k_iload_n (pc' := 8) h dX5_at_7 rfl rfl 3 rfl ?_
  refine k_if_eq (tgt := 13) (pc' := 11) h dX5_at_8 rfl rfl (fun c2 => ?_) (fun c2 => ?_)
  · replace hf := if_t c2 hf
    refine k_aload_n (pc' := 14) h dX5_at_13 rfl rfl 0 rfl ?_
    refine k_aload_n (pc' := 15) h dX5_at_14 rfl rfl 0 rfl ?_
    refine k_get (v := .ref (al (oC G) 1)) (pc' := 18) h dX5_at_15 rfl bC_us fl_X5_11 rfl ?_
    refine k_iload_n (pc' := 19) h dX5_at_18 rfl rfl 1 rfl ?_
    have g3 := gd_1 hf
    replace hf := gd_2 hf
    refine k_aald (tt := .array .int) (pc' := 20) h dX5_at_19 rfl rC_rows rfl rfl g3 ?_
    refine k_iload_n (pc' := 21) h dX5_at_20 rfl rfl 2 rfl ?_
    have g4 := gd_1 hf
    replace hf := gd_2 hf
    refine k_iald (pc' := 22) h dX5_at_21 rfl (aC_row (Nat.le_add_right 2 x0.toNatClampNeg) (Nat.add_lt_add_left (inb_lt g3) 2)) g4 ?_
    refine k_put (pc' := 25) h dX5_at_22 rfl bC_us fp_X5_53 sf_us_9 sj_us_9 ?_
    obtain ⟨s5, hs5, hf⟩ := ls_s hf
    refine k_st hs5 ?_
    refine k_iconst (pc' := 26) h dX5_at_25 rfl ci_1 ?_
    exact k_iret h r dX5_at_26 (lf_i hf)
  · replace hf := if_f c2 hf
    refine k_iload_n (pc' := 12) h dX5_at_11 rfl rfl 3 rfl ?_
    exact k_iret h r dX5_at_12 (lf_i hf)
noncomputable def f_X5_tear (x0 : Int32) (st : St) : Option (Int32 × St) :=
  ((f_X5_rowRefusal x0 st).bind (fun q1 => (if q1.1 = 0 then (gd (inb x0 6) (ls (sA q1.2 8 (upd (q1.2.1 8) x0.toNatClampNeg (-1 : Int32))) (fun s4 => (some ((1 : Int32), s4))))) else (some (q1.1, q1.2)))))
set_option maxHeartbeats 4000000 in
theorem c_X5_tear {G : GG} (l : Launch) (x0 : Int32) (st : St)  (rr : Int32) (st' : St) (hf : f_X5_tear x0 st = some (rr, st')) : MM l yX5_tear cX5_tear 3 (some .int) 2 (oC G) [.ref (al (oC G) 0), .int x0] st (some (.int rr)) st' := by
  refine mk_MM (by decide +kernel) (Nat.le_of_ble_eq_true rfl) (fun X h r => ?_)
  refine k_sub (lv' := [(0, .ref (al (oC G) 0)), (1, .int x0)]) [0, 1] rfl ?_
  unfold f_X5_tear at hf
  refine k_aload_n (pc' := 1) h dX5_tear_0 rfl rfl 0 rfl ?_
  refine k_iload_n (pc' := 2) h dX5_tear_1 rfl rfl 1 rfl ?_
  obtain ⟨q1, hq1, hf⟩ := bd_s hf
  refine k_callV (As := [.int x0]) (rest := []) (rv := some (.int q1.1)) (st' := q1.2) (stk' := [.int q1.1]) (pc' := 5) h dX5_tear_2 rfl ml_X5_80 wc_X5_rowRefusal wi_X5_rowRefusal ⟨Nat.le_of_ble_eq_true rfl, Nat.le_of_ble_eq_true rfl⟩ bC_us rfl rfl rfl rfl (Nat.le_of_ble_eq_true rfl) (fun l => c_X5_rowRefusal l x0 st  _ _ hq1) rfl ?_
  refine k_istore_n (lv' := [(0, .ref (al (oC G) 0)), (1, .int x0), (2, .int q1.1)]) (pc' := 6) h dX5_tear_5 rfl rfl (Nat.le_of_ble_eq_true rfl) [1, 2, 0] rfl ?_
  refine k_iload_n (pc' := 7) h dX5_tear_6 rfl rfl 2 rfl ?_
  refine k_if_eq (tgt := 12) (pc' := 10) h dX5_tear_7 rfl rfl (fun c2 => ?_) (fun c2 => ?_)
  · replace hf := if_t c2 hf
    refine k_aload_n (pc' := 13) h dX5_tear_12 rfl rfl 0 rfl ?_
    refine k_get (v := .ref (al (oC G) 8)) (pc' := 16) h dX5_tear_13 rfl bC_us fl_X5_14 rfl ?_
    refine k_iload_n (pc' := 17) h dX5_tear_16 rfl rfl 1 rfl ?_
    refine k_iconst (pc' := 18) h dX5_tear_17 rfl ci_m1 ?_
    have g3 := gd_1 hf
    replace hf := gd_2 hf
    refine k_iast (pc' := 19) h dX5_tear_18 rfl aC_rs g3 ?_
    obtain ⟨s4, hs4, hf⟩ := ls_s hf
    refine k_st hs4 ?_
    refine k_iconst (pc' := 20) h dX5_tear_19 rfl ci_1 ?_
    exact k_iret h r dX5_tear_20 (lf_i hf)
  · replace hf := if_f c2 hf
    refine k_iload_n (pc' := 11) h dX5_tear_10 rfl rfl 2 rfl ?_
    exact k_iret h r dX5_tear_11 (lf_i hf)
noncomputable def f_X5_copy (x0 : Int32) (x1 : Int32) (x2 : Int32) (x3 : Int32) (x4 : Int32) (st : St) : Option (Int32 × St) :=
  ((f_X5_isRow x0 st).bind (fun q1 => (if q1.1 = 0 then (some ((-1 : Int32), q1.2)) else ((f_X5_isRow x2 q1.2).bind (fun q3 => (if q3.1 = 0 then (some ((-1 : Int32), q3.2)) else (if 0 ≤ x4 then (gd (inb x0 6) (if (q3.2.1 8 x0.toNatClampNeg) < 0 then ((f_X5_found (1 : Int32) q3.2).bind (fun q8 => (some (q8.1, q8.2)))) else (gd (inb x2 6) (if 0 ≤ (q3.2.1 8 x2.toNatClampNeg) then (if x1 < 0 then ((f_X5_found (2 : Int32) q3.2).bind (fun q12 => (some (q12.1, q12.2)))) else (if x3 < 0 then ((f_X5_found (2 : Int32) q3.2).bind (fun q14 => (some (q14.1, q14.2)))) else (gd (inb x0 6) (if ((q3.2.1 8 x0.toNatClampNeg) - x4) < x1 then ((f_X5_found (2 : Int32) q3.2).bind (fun q17 => (some (q17.1, q17.2)))) else (gd (inb x2 6) (if x3 ≤ ((q3.2.1 8 x2.toNatClampNeg) - x4) then (gd (inb x0 6) (gd (inb x2 6) (gd (cpg x1 x3 x4 40 40) (ls (sA q3.2 (2 + x2.toNatClampNeg) (va_cpy (q3.2.1 (2 + x0.toNatClampNeg)) (q3.2.1 (2 + x2.toNatClampNeg)) x1.toNatClampNeg x3.toNatClampNeg x4.toNatClampNeg)) (fun s23 => (some ((1 : Int32), s23))))))) else ((f_X5_found (2 : Int32) q3.2).bind (fun q24 => (some (q24.1, q24.2)))))))))) else ((f_X5_found (1 : Int32) q3.2).bind (fun q25 => (some (q25.1, q25.2)))))))) else ((f_X5_found (5 : Int32) q3.2).bind (fun q26 => (some (q26.1, q26.2)))))))))))
set_option maxHeartbeats 4000000 in
theorem c_X5_copy {G : GG} (l : Launch) (x0 : Int32) (x1 : Int32) (x2 : Int32) (x3 : Int32) (x4 : Int32) (st : St)  (rr : Int32) (st' : St) (hf : f_X5_copy x0 x1 x2 x3 x4 st = some (rr, st')) : MM l yX5_copy cX5_copy 6 (some .int) 1 (oC G) [.ref (al (oC G) 0), .int x0, .int x1, .int x2, .int x3, .int x4] st (some (.int rr)) st' := by
  refine mk_MM (by decide +kernel) (Nat.le_of_ble_eq_true rfl) (fun X h r => ?_)
  refine k_sub (lv' := [(0, .ref (al (oC G) 0)), (1, .int x0), (2, .int x1), (3, .int x2), (4, .int x3), (5, .int x4)]) [0, 1, 2, 3, 4, 5] rfl ?_
  unfold f_X5_copy at hf
  refine k_iload_n (pc' := 1) h dX5_copy_0 rfl rfl 1 rfl ?_
  obtain ⟨q1, hq1, hf⟩ := bd_s hf
  refine k_callS (As := [.int x0]) (rest := []) (rv := some (.int q1.1)) (st' := q1.2) (stk' := [.int q1.1]) (pc' := 4) h dX5_copy_1 rfl ml_X5_64 wc_X5_isRow ws_X5_isRow ⟨Nat.le_of_ble_eq_true rfl, Nat.le_of_ble_eq_true rfl⟩ rfl rfl (Nat.le_of_ble_eq_true rfl) (fun l => c_X5_isRow l x0 st  _ _ hq1) rfl ?_
  refine k_if_eq (tgt := 14) (pc' := 7) h dX5_copy_4 rfl rfl (fun c2 => ?_) (fun c2 => ?_)
  · replace hf := if_t c2 hf
    refine k_iconst (pc' := 15) h dX5_copy_14 rfl ci_m1 ?_
    exact k_iret h r dX5_copy_15 (lf_i hf)
  · replace hf := if_f c2 hf
    refine k_iload_n (pc' := 8) h dX5_copy_7 rfl rfl 3 rfl ?_
    obtain ⟨q3, hq3, hf⟩ := bd_s hf
    refine k_callS (As := [.int x2]) (rest := []) (rv := some (.int q3.1)) (st' := q3.2) (stk' := [.int q3.1]) (pc' := 11) h dX5_copy_8 rfl ml_X5_64 wc_X5_isRow ws_X5_isRow ⟨Nat.le_of_ble_eq_true rfl, Nat.le_of_ble_eq_true rfl⟩ rfl rfl (Nat.le_of_ble_eq_true rfl) (fun l => c_X5_isRow l x2 q1.2  _ _ hq3) rfl ?_
    refine k_if_ne (tgt := 16) (pc' := 14) h dX5_copy_11 rfl rfl (fun c4 => ?_) (fun c4 => ?_)
    · replace hf := if_f c4 hf
      refine k_iload (pc' := 18) h dX5_copy_16 rfl 5 rfl ?_
      refine k_if_ge (tgt := 27) (pc' := 21) h dX5_copy_18 rfl rfl (fun c5 => ?_) (fun c5 => ?_)
      · replace hf := if_t c5 hf
        refine k_aload_n (pc' := 28) h dX5_copy_27 rfl rfl 0 rfl ?_
        refine k_get (v := .ref (al (oC G) 8)) (pc' := 31) h dX5_copy_28 rfl bC_us fl_X5_14 rfl ?_
        refine k_iload_n (pc' := 32) h dX5_copy_31 rfl rfl 1 rfl ?_
        have g6 := gd_1 hf
        replace hf := gd_2 hf
        refine k_iald (pc' := 33) h dX5_copy_32 rfl aC_rs g6 ?_
        refine k_if_lt (tgt := 45) (pc' := 36) h dX5_copy_33 rfl rfl (fun c7 => ?_) (fun c7 => ?_)
        · replace hf := if_t c7 hf
          refine k_aload_n (pc' := 46) h dX5_copy_45 rfl rfl 0 rfl ?_
          refine k_iconst (pc' := 47) h dX5_copy_46 rfl ci_1 ?_
          obtain ⟨q8, hq8, hf⟩ := bd_s hf
          refine k_callV (As := [.int (1 : Int32)]) (rest := []) (rv := some (.int q8.1)) (st' := q8.2) (stk' := [.int q8.1]) (pc' := 50) h dX5_copy_47 rfl ml_X5_68 wc_X5_found wi_X5_found ⟨Nat.le_of_ble_eq_true rfl, Nat.le_of_ble_eq_true rfl⟩ bC_us rfl rfl rfl rfl (Nat.le_of_ble_eq_true rfl) (fun l => c_X5_found l (1 : Int32) q3.2  _ _ hq8) rfl ?_
          exact k_iret h r dX5_copy_50 (lf_i hf)
        · replace hf := if_f c7 hf
          refine k_aload_n (pc' := 37) h dX5_copy_36 rfl rfl 0 rfl ?_
          refine k_get (v := .ref (al (oC G) 8)) (pc' := 40) h dX5_copy_37 rfl bC_us fl_X5_14 rfl ?_
          refine k_iload_n (pc' := 41) h dX5_copy_40 rfl rfl 3 rfl ?_
          have g9 := gd_1 hf
          replace hf := gd_2 hf
          refine k_iald (pc' := 42) h dX5_copy_41 rfl aC_rs g9 ?_
          refine k_if_ge (tgt := 51) (pc' := 45) h dX5_copy_42 rfl rfl (fun c10 => ?_) (fun c10 => ?_)
          · replace hf := if_t c10 hf
            refine k_iload_n (pc' := 52) h dX5_copy_51 rfl rfl 2 rfl ?_
            refine k_if_lt (tgt := 87) (pc' := 55) h dX5_copy_52 rfl rfl (fun c11 => ?_) (fun c11 => ?_)
            · replace hf := if_t c11 hf
              refine k_aload_n (pc' := 88) h dX5_copy_87 rfl rfl 0 rfl ?_
              refine k_iconst (pc' := 89) h dX5_copy_88 rfl ci_2 ?_
              obtain ⟨q12, hq12, hf⟩ := bd_s hf
              refine k_callV (As := [.int (2 : Int32)]) (rest := []) (rv := some (.int q12.1)) (st' := q12.2) (stk' := [.int q12.1]) (pc' := 92) h dX5_copy_89 rfl ml_X5_68 wc_X5_found wi_X5_found ⟨Nat.le_of_ble_eq_true rfl, Nat.le_of_ble_eq_true rfl⟩ bC_us rfl rfl rfl rfl (Nat.le_of_ble_eq_true rfl) (fun l => c_X5_found l (2 : Int32) q3.2  _ _ hq12) rfl ?_
              exact k_iret h r dX5_copy_92 (lf_i hf)
            · replace hf := if_f c11 hf
              refine k_iload (pc' := 57) h dX5_copy_55 rfl 4 rfl ?_
              refine k_if_lt (tgt := 87) (pc' := 60) h dX5_copy_57 rfl rfl (fun c13 => ?_) (fun c13 => ?_)
              · replace hf := if_t c13 hf
                refine k_aload_n (pc' := 88) h dX5_copy_87 rfl rfl 0 rfl ?_
                refine k_iconst (pc' := 89) h dX5_copy_88 rfl ci_2 ?_
                obtain ⟨q14, hq14, hf⟩ := bd_s hf
                refine k_callV (As := [.int (2 : Int32)]) (rest := []) (rv := some (.int q14.1)) (st' := q14.2) (stk' := [.int q14.1]) (pc' := 92) h dX5_copy_89 rfl ml_X5_68 wc_X5_found wi_X5_found ⟨Nat.le_of_ble_eq_true rfl, Nat.le_of_ble_eq_true rfl⟩ bC_us rfl rfl rfl rfl (Nat.le_of_ble_eq_true rfl) (fun l => c_X5_found l (2 : Int32) q3.2  _ _ hq14) rfl ?_
                exact k_iret h r dX5_copy_92 (lf_i hf)
              · replace hf := if_f c13 hf
                refine k_iload_n (pc' := 61) h dX5_copy_60 rfl rfl 2 rfl ?_
                refine k_aload_n (pc' := 62) h dX5_copy_61 rfl rfl 0 rfl ?_
                refine k_get (v := .ref (al (oC G) 8)) (pc' := 65) h dX5_copy_62 rfl bC_us fl_X5_14 rfl ?_
                refine k_iload_n (pc' := 66) h dX5_copy_65 rfl rfl 1 rfl ?_
                have g15 := gd_1 hf
                replace hf := gd_2 hf
                refine k_iald (pc' := 67) h dX5_copy_66 rfl aC_rs g15 ?_
                refine k_iload (pc' := 69) h dX5_copy_67 rfl 5 rfl ?_
                refine k_isub (pc' := 70) h dX5_copy_69 rfl ?_
                refine k_icmp_gt (tgt := 87) (pc' := 73) h dX5_copy_70 rfl rfl (fun c16 => ?_) (fun c16 => ?_)
                · replace hf := if_t c16 hf
                  refine k_aload_n (pc' := 88) h dX5_copy_87 rfl rfl 0 rfl ?_
                  refine k_iconst (pc' := 89) h dX5_copy_88 rfl ci_2 ?_
                  obtain ⟨q17, hq17, hf⟩ := bd_s hf
                  refine k_callV (As := [.int (2 : Int32)]) (rest := []) (rv := some (.int q17.1)) (st' := q17.2) (stk' := [.int q17.1]) (pc' := 92) h dX5_copy_89 rfl ml_X5_68 wc_X5_found wi_X5_found ⟨Nat.le_of_ble_eq_true rfl, Nat.le_of_ble_eq_true rfl⟩ bC_us rfl rfl rfl rfl (Nat.le_of_ble_eq_true rfl) (fun l => c_X5_found l (2 : Int32) q3.2  _ _ hq17) rfl ?_
                  exact k_iret h r dX5_copy_92 (lf_i hf)
                · replace hf := if_f c16 hf
                  refine k_iload (pc' := 75) h dX5_copy_73 rfl 4 rfl ?_
                  refine k_aload_n (pc' := 76) h dX5_copy_75 rfl rfl 0 rfl ?_
                  refine k_get (v := .ref (al (oC G) 8)) (pc' := 79) h dX5_copy_76 rfl bC_us fl_X5_14 rfl ?_
                  refine k_iload_n (pc' := 80) h dX5_copy_79 rfl rfl 3 rfl ?_
                  have g18 := gd_1 hf
                  replace hf := gd_2 hf
                  refine k_iald (pc' := 81) h dX5_copy_80 rfl aC_rs g18 ?_
                  refine k_iload (pc' := 83) h dX5_copy_81 rfl 5 rfl ?_
                  refine k_isub (pc' := 84) h dX5_copy_83 rfl ?_
                  refine k_icmp_le (tgt := 93) (pc' := 87) h dX5_copy_84 rfl rfl (fun c19 => ?_) (fun c19 => ?_)
                  · replace hf := if_t c19 hf
                    refine k_aload_n (pc' := 94) h dX5_copy_93 rfl rfl 0 rfl ?_
                    refine k_get (v := .ref (al (oC G) 1)) (pc' := 97) h dX5_copy_94 rfl bC_us fl_X5_11 rfl ?_
                    refine k_iload_n (pc' := 98) h dX5_copy_97 rfl rfl 1 rfl ?_
                    have g20 := gd_1 hf
                    replace hf := gd_2 hf
                    refine k_aald (tt := .array .int) (pc' := 99) h dX5_copy_98 rfl rC_rows rfl rfl g20 ?_
                    refine k_iload_n (pc' := 100) h dX5_copy_99 rfl rfl 2 rfl ?_
                    refine k_aload_n (pc' := 101) h dX5_copy_100 rfl rfl 0 rfl ?_
                    refine k_get (v := .ref (al (oC G) 1)) (pc' := 104) h dX5_copy_101 rfl bC_us fl_X5_11 rfl ?_
                    refine k_iload_n (pc' := 105) h dX5_copy_104 rfl rfl 3 rfl ?_
                    have g21 := gd_1 hf
                    replace hf := gd_2 hf
                    refine k_aald (tt := .array .int) (pc' := 106) h dX5_copy_105 rfl rC_rows rfl rfl g21 ?_
                    refine k_iload (pc' := 108) h dX5_copy_106 rfl 4 rfl ?_
                    refine k_iload (pc' := 110) h dX5_copy_108 rfl 5 rfl ?_
                    have g22 := cpg_all (gd_1 hf)
                    replace hf := gd_2 hf
                    refine k_cpy (pc' := 113) h dX5_copy_110 rfl ml_X5_83 w_copy (aC_row (Nat.le_add_right 2 x0.toNatClampNeg) (Nat.add_lt_add_left (inb_lt g20) 2)) (aC_row (Nat.le_add_right 2 x2.toNatClampNeg) (Nat.add_lt_add_left (inb_lt g21) 2)) g22.1 g22.2.1 g22.2.2.1 g22.2.2.2.1 g22.2.2.2.2 ⟨Nat.le_of_ble_eq_true rfl, Nat.le_of_ble_eq_true rfl⟩ ?_
                    obtain ⟨s23, hs23, hf⟩ := ls_s hf
                    refine k_st hs23 ?_
                    refine k_iconst (pc' := 114) h dX5_copy_113 rfl ci_1 ?_
                    exact k_iret h r dX5_copy_114 (lf_i hf)
                  · replace hf := if_f c19 hf
                    refine k_aload_n (pc' := 88) h dX5_copy_87 rfl rfl 0 rfl ?_
                    refine k_iconst (pc' := 89) h dX5_copy_88 rfl ci_2 ?_
                    obtain ⟨q24, hq24, hf⟩ := bd_s hf
                    refine k_callV (As := [.int (2 : Int32)]) (rest := []) (rv := some (.int q24.1)) (st' := q24.2) (stk' := [.int q24.1]) (pc' := 92) h dX5_copy_89 rfl ml_X5_68 wc_X5_found wi_X5_found ⟨Nat.le_of_ble_eq_true rfl, Nat.le_of_ble_eq_true rfl⟩ bC_us rfl rfl rfl rfl (Nat.le_of_ble_eq_true rfl) (fun l => c_X5_found l (2 : Int32) q3.2  _ _ hq24) rfl ?_
                    exact k_iret h r dX5_copy_92 (lf_i hf)
          · replace hf := if_f c10 hf
            refine k_aload_n (pc' := 46) h dX5_copy_45 rfl rfl 0 rfl ?_
            refine k_iconst (pc' := 47) h dX5_copy_46 rfl ci_1 ?_
            obtain ⟨q25, hq25, hf⟩ := bd_s hf
            refine k_callV (As := [.int (1 : Int32)]) (rest := []) (rv := some (.int q25.1)) (st' := q25.2) (stk' := [.int q25.1]) (pc' := 50) h dX5_copy_47 rfl ml_X5_68 wc_X5_found wi_X5_found ⟨Nat.le_of_ble_eq_true rfl, Nat.le_of_ble_eq_true rfl⟩ bC_us rfl rfl rfl rfl (Nat.le_of_ble_eq_true rfl) (fun l => c_X5_found l (1 : Int32) q3.2  _ _ hq25) rfl ?_
            exact k_iret h r dX5_copy_50 (lf_i hf)
      · replace hf := if_f c5 hf
        refine k_aload_n (pc' := 22) h dX5_copy_21 rfl rfl 0 rfl ?_
        refine k_iconst (pc' := 23) h dX5_copy_22 rfl ci_5 ?_
        obtain ⟨q26, hq26, hf⟩ := bd_s hf
        refine k_callV (As := [.int (5 : Int32)]) (rest := []) (rv := some (.int q26.1)) (st' := q26.2) (stk' := [.int q26.1]) (pc' := 26) h dX5_copy_23 rfl ml_X5_68 wc_X5_found wi_X5_found ⟨Nat.le_of_ble_eq_true rfl, Nat.le_of_ble_eq_true rfl⟩ bC_us rfl rfl rfl rfl (Nat.le_of_ble_eq_true rfl) (fun l => c_X5_found l (5 : Int32) q3.2  _ _ hq26) rfl ?_
        exact k_iret h r dX5_copy_26 (lf_i hf)
    · replace hf := if_t c4 hf
      refine k_iconst (pc' := 15) h dX5_copy_14 rfl ci_m1 ?_
      exact k_iret h r dX5_copy_15 (lf_i hf)
noncomputable def l_X5_mean_32 (p1 : Int32) (p2 : Int32) (v3 : Int64) (v5 : Int32) (st : St) : Option ((Int64 × Int32 × St) ⊕ (Int64 × Int32 × St)) :=
  (gd (inb p1 6) (if (st.1 8 p1.toNatClampNeg) ≤ v5 then (some (.inr (v3, v5, st))) else (gd (inb p1 6) (gd (inb v5 40) (lw (v3 + ((st.1 (2 + p1.toNatClampNeg) v5.toNatClampNeg).toInt64)) (fun y9 => (some (.inl (y9, v5 + (1 : Int32), st)))))))))
set_option maxHeartbeats 4000000 in
theorem w_X5_mean_32 {G : GG} {X : Cx} (h : Ok X (oC G) cX5_mean RX5 6 (RM 2))  (p1 : Int32) (p2 : Int32)  (n : Nat) (v3 : Int64) (v5 : Int32) (st : St) (q : Int64 × Int32 × St) (hq : iter (fun v : Int64 × Int32 × St => l_X5_mean_32 p1 p2 v.1 v.2.1 v.2.2) n (v3, v5, st) = some q) (kx : Wk X (oC G) 6 q.2.2 62 [(0, .ref (al (oC G) 0)), (1, .int p1), (2, .int p2), (3, .long q.1), (5, .int q.2.1)] []) : Wk X (oC G) 6 st 32 [(0, .ref (al (oC G) 0)), (1, .int p1), (2, .int p2), (3, .long v3), (5, .int v5)] [] := by
  refine iter_rule (hd := (fun v : Int64 × Int32 × St => Wk X (oC G) 6 v.2.2 32 [(0, .ref (al (oC G) 0)), (1, .int p1), (2, .int p2), (3, .long v.1), (5, .int v.2.1)] [])) (ex := (fun v : Int64 × Int32 × St => Wk X (oC G) 6 v.2.2 62 [(0, .ref (al (oC G) 0)), (1, .int p1), (2, .int p2), (3, .long v.1), (5, .int v.2.1)] [])) ?_ n (v3, v5, st) q hq kx
  rintro ⟨v3, v5, st⟩ oo hbv K
  show Wk X (oC G) 6 st 32 [(0, .ref (al (oC G) 0)), (1, .int p1), (2, .int p2), (3, .long v3), (5, .int v5)] []
  have hf : l_X5_mean_32 p1 p2 v3 v5 st = some oo := hbv
  unfold l_X5_mean_32 at hf
  refine k_iload (pc' := 34) h dX5_mean_32 rfl 4 rfl ?_
  refine k_aload_n (pc' := 35) h dX5_mean_34 rfl rfl 0 rfl ?_
  refine k_get (v := .ref (al (oC G) 8)) (pc' := 38) h dX5_mean_35 rfl bC_us fl_X5_14 rfl ?_
  refine k_iload_n (pc' := 39) h dX5_mean_38 rfl rfl 1 rfl ?_
  have g5 := gd_1 hf
  replace hf := gd_2 hf
  refine k_iald (pc' := 40) h dX5_mean_39 rfl aC_rs g5 ?_
  refine k_icmp_ge (tgt := 62) (pc' := 43) h dX5_mean_40 rfl rfl (fun c6 => ?_) (fun c6 => ?_)
  · replace hf := if_t c6 hf
    refine k_sub (lv' := [(0, .ref (al (oC G) 0)), (1, .int p1), (2, .int p2), (3, .long v3), (5, .int v5)]) [0, 1, 2, 3, 4] rfl ?_
    exact lp_o hf K
  · replace hf := if_f c6 hf
    refine k_lload_n (pc' := 44) h dX5_mean_43 rfl rfl 3 rfl ?_
    refine k_aload_n (pc' := 45) h dX5_mean_44 rfl rfl 0 rfl ?_
    refine k_get (v := .ref (al (oC G) 1)) (pc' := 48) h dX5_mean_45 rfl bC_us fl_X5_11 rfl ?_
    refine k_iload_n (pc' := 49) h dX5_mean_48 rfl rfl 1 rfl ?_
    have g7 := gd_1 hf
    replace hf := gd_2 hf
    refine k_aald (tt := .array .int) (pc' := 50) h dX5_mean_49 rfl rC_rows rfl rfl g7 ?_
    refine k_iload (pc' := 52) h dX5_mean_50 rfl 4 rfl ?_
    have g8 := gd_1 hf
    replace hf := gd_2 hf
    refine k_iald (pc' := 53) h dX5_mean_52 rfl (aC_row (Nat.le_add_right 2 p1.toNatClampNeg) (Nat.add_lt_add_left (inb_lt g7) 2)) g8 ?_
    refine k_i2l (pc' := 54) h dX5_mean_53 rfl ?_
    refine k_ladd (pc' := 55) h dX5_mean_54 rfl ?_
    obtain ⟨y9, hy9, hf⟩ := lw_s hf
    refine k_eql hy9 ?_
    refine k_lstore_n (lv' := [(0, .ref (al (oC G) 0)), (1, .int p1), (2, .int p2), (3, .long y9), (5, .int v5)]) (pc' := 56) h dX5_mean_55 rfl rfl (Nat.le_of_ble_eq_true rfl) [1, 2, 3, 0, 4] rfl ?_
    refine k_iinc (lv' := [(0, .ref (al (oC G) 0)), (1, .int p1), (2, .int p2), (3, .long y9), (5, .int (v5 + (1 : Int32)))]) (pc' := 59) h dX5_mean_56 rfl 4 rfl (congrArg (fun z => v5 + z) ci_1) (Nat.le_of_ble_eq_true rfl) [1, 2, 3, 4, 0] rfl ?_
    refine k_goto (tgt := 32) h dX5_mean_59 rfl ?_
    refine k_sub (lv' := [(0, .ref (al (oC G) 0)), (1, .int p1), (2, .int p2), (3, .long y9), (5, .int (v5 + (1 : Int32)))]) [0, 1, 2, 3, 4] rfl ?_
    exact lp_o hf K
noncomputable def f_X5_mean (x0 : Int32) (st : St) : Option (Int32 × St) :=
  ((f_X5_rowRefusal x0 st).bind (fun q1 => (if q1.1 = 0 then (gd (inb x0 6) (if (q1.2.1 8 x0.toNatClampNeg) = 0 then ((f_X5_found (4 : Int32) q1.2).bind (fun q14 => (some (q14.1, q14.2)))) else ((iter (fun v : Int64 × Int32 × St => l_X5_mean_32 x0 q1.1 v.1 v.2.1 v.2.2) fuel ((0 : Int64), (0 : Int32), q1.2)).bind (fun q10 => (gd (inb x0 6) (gd (nzl ((q10.2.2.1 8 x0.toNatClampNeg).toInt64)) (ls (sA q10.2.2 0 (upd (q10.2.2.1 0) 9 ((q10.1 / ((q10.2.2.1 8 x0.toNatClampNeg).toInt64)).toInt32))) (fun s13 => (some ((1 : Int32), s13)))))))))) else (some (q1.1, q1.2)))))
set_option maxHeartbeats 4000000 in
theorem c_X5_mean {G : GG} (l : Launch) (x0 : Int32) (st : St)  (rr : Int32) (st' : St) (hf : f_X5_mean x0 st = some (rr, st')) : MM l yX5_mean cX5_mean 6 (some .int) 2 (oC G) [.ref (al (oC G) 0), .int x0] st (some (.int rr)) st' := by
  refine mk_MM (by decide +kernel) (Nat.le_of_ble_eq_true rfl) (fun X h r => ?_)
  refine k_sub (lv' := [(0, .ref (al (oC G) 0)), (1, .int x0)]) [0, 1] rfl ?_
  unfold f_X5_mean at hf
  refine k_aload_n (pc' := 1) h dX5_mean_0 rfl rfl 0 rfl ?_
  refine k_iload_n (pc' := 2) h dX5_mean_1 rfl rfl 1 rfl ?_
  obtain ⟨q1, hq1, hf⟩ := bd_s hf
  refine k_callV (As := [.int x0]) (rest := []) (rv := some (.int q1.1)) (st' := q1.2) (stk' := [.int q1.1]) (pc' := 5) h dX5_mean_2 rfl ml_X5_80 wc_X5_rowRefusal wi_X5_rowRefusal ⟨Nat.le_of_ble_eq_true rfl, Nat.le_of_ble_eq_true rfl⟩ bC_us rfl rfl rfl rfl (Nat.le_of_ble_eq_true rfl) (fun l => c_X5_rowRefusal l x0 st  _ _ hq1) rfl ?_
  refine k_istore_n (lv' := [(0, .ref (al (oC G) 0)), (1, .int x0), (2, .int q1.1)]) (pc' := 6) h dX5_mean_5 rfl rfl (Nat.le_of_ble_eq_true rfl) [1, 2, 0] rfl ?_
  refine k_iload_n (pc' := 7) h dX5_mean_6 rfl rfl 2 rfl ?_
  refine k_if_eq (tgt := 12) (pc' := 10) h dX5_mean_7 rfl rfl (fun c2 => ?_) (fun c2 => ?_)
  · replace hf := if_t c2 hf
    refine k_aload_n (pc' := 13) h dX5_mean_12 rfl rfl 0 rfl ?_
    refine k_get (v := .ref (al (oC G) 8)) (pc' := 16) h dX5_mean_13 rfl bC_us fl_X5_14 rfl ?_
    refine k_iload_n (pc' := 17) h dX5_mean_16 rfl rfl 1 rfl ?_
    have g3 := gd_1 hf
    replace hf := gd_2 hf
    refine k_iald (pc' := 18) h dX5_mean_17 rfl aC_rs g3 ?_
    refine k_if_ne (tgt := 27) (pc' := 21) h dX5_mean_18 rfl rfl (fun c4 => ?_) (fun c4 => ?_)
    · replace hf := if_f c4 hf
      refine k_lconst (pc' := 28) h dX5_mean_27 rfl cl_0 ?_
      refine k_lstore_n (lv' := [(0, .ref (al (oC G) 0)), (1, .int x0), (2, .int q1.1), (3, .long (0 : Int64))]) (pc' := 29) h dX5_mean_28 rfl rfl (Nat.le_of_ble_eq_true rfl) [1, 2, 3, 0] rfl ?_
      refine k_iconst (pc' := 30) h dX5_mean_29 rfl ci_0 ?_
      refine k_istore (lv' := [(0, .ref (al (oC G) 0)), (1, .int x0), (2, .int q1.1), (3, .long (0 : Int64)), (5, .int (0 : Int32))]) (pc' := 32) h dX5_mean_30 rfl (Nat.le_of_ble_eq_true rfl) [1, 2, 3, 4, 0] rfl ?_
      obtain ⟨q10, hq10, hf⟩ := bd_s hf
      refine w_X5_mean_32 h x0 q1.1  fuel (0 : Int64) (0 : Int32) q1.2 q10 hq10 ?_
      refine k_aload_n (pc' := 63) h dX5_mean_62 rfl rfl 0 rfl ?_
      refine k_lload_n (pc' := 64) h dX5_mean_63 rfl rfl 3 rfl ?_
      refine k_aload_n (pc' := 65) h dX5_mean_64 rfl rfl 0 rfl ?_
      refine k_get (v := .ref (al (oC G) 8)) (pc' := 68) h dX5_mean_65 rfl bC_us fl_X5_14 rfl ?_
      refine k_iload_n (pc' := 69) h dX5_mean_68 rfl rfl 1 rfl ?_
      have g11 := gd_1 hf
      replace hf := gd_2 hf
      refine k_iald (pc' := 70) h dX5_mean_69 rfl aC_rs g11 ?_
      refine k_i2l (pc' := 71) h dX5_mean_70 rfl ?_
      have g12 := gd_1 hf
      replace hf := gd_2 hf
      refine k_ldiv (pc' := 72) h dX5_mean_71 rfl (nzl_n g12) ?_
      refine k_l2i (pc' := 73) h dX5_mean_72 rfl ?_
      refine k_put (pc' := 76) h dX5_mean_73 rfl bC_us fp_X5_53 sf_us_9 sj_us_9 ?_
      obtain ⟨s13, hs13, hf⟩ := ls_s hf
      refine k_st hs13 ?_
      refine k_iconst (pc' := 77) h dX5_mean_76 rfl ci_1 ?_
      exact k_iret h r dX5_mean_77 (lf_i hf)
    · replace hf := if_t c4 hf
      refine k_aload_n (pc' := 22) h dX5_mean_21 rfl rfl 0 rfl ?_
      refine k_iconst (pc' := 23) h dX5_mean_22 rfl ci_4 ?_
      obtain ⟨q14, hq14, hf⟩ := bd_s hf
      refine k_callV (As := [.int (4 : Int32)]) (rest := []) (rv := some (.int q14.1)) (st' := q14.2) (stk' := [.int q14.1]) (pc' := 26) h dX5_mean_23 rfl ml_X5_68 wc_X5_found wi_X5_found ⟨Nat.le_of_ble_eq_true rfl, Nat.le_of_ble_eq_true rfl⟩ bC_us rfl rfl rfl rfl (Nat.le_of_ble_eq_true rfl) (fun l => c_X5_found l (4 : Int32) q1.2  _ _ hq14) rfl ?_
      exact k_iret h r dX5_mean_26 (lf_i hf)
  · replace hf := if_f c2 hf
    refine k_iload_n (pc' := 11) h dX5_mean_10 rfl rfl 2 rfl ?_
    exact k_iret h r dX5_mean_11 (lf_i hf)
noncomputable def f_X5_isText (x0 : Int32) (st : St) : Option (Int32 × St) :=
  (if x0 < 0 then (some ((0 : Int32), st)) else (if (4 : Int32) ≤ x0 then (some ((0 : Int32), st)) else (some ((1 : Int32), st))))
set_option maxHeartbeats 4000000 in
theorem c_X5_isText {G : GG} (l : Launch) (x0 : Int32) (st : St)  (rr : Int32) (st' : St) (hf : f_X5_isText x0 st = some (rr, st')) : MM l yX5_isText cX5_isText 1 (some .boolean) 0 (oC G) [.int x0] st (some (.int rr)) st' := by
  refine mk_MM (by decide +kernel) (Nat.le_of_ble_eq_true rfl) (fun X h r => ?_)
  refine k_sub (lv' := [(0, .int x0)]) [0] rfl ?_
  unfold f_X5_isText at hf
  refine k_iload_n (pc' := 1) h dX5_isText_0 rfl rfl 0 rfl ?_
  refine k_if_lt (tgt := 13) (pc' := 4) h dX5_isText_1 rfl rfl (fun c1 => ?_) (fun c1 => ?_)
  · replace hf := if_t c1 hf
    refine k_iconst (pc' := 14) h dX5_isText_13 rfl ci_0 ?_
    exact k_zret h r dX5_isText_14 (by decide) (lf_i hf)
  · replace hf := if_f c1 hf
    refine k_iload_n (pc' := 5) h dX5_isText_4 rfl rfl 0 rfl ?_
    refine k_iconst (pc' := 6) h dX5_isText_5 rfl ci_4 ?_
    refine k_icmp_ge (tgt := 13) (pc' := 9) h dX5_isText_6 rfl rfl (fun c2 => ?_) (fun c2 => ?_)
    · replace hf := if_t c2 hf
      refine k_iconst (pc' := 14) h dX5_isText_13 rfl ci_0 ?_
      exact k_zret h r dX5_isText_14 (by decide) (lf_i hf)
    · replace hf := if_f c2 hf
      refine k_iconst (pc' := 10) h dX5_isText_9 rfl ci_1 ?_
      refine k_goto (tgt := 14) h dX5_isText_10 rfl ?_
      exact k_zret h r dX5_isText_14 (by decide) (lf_i hf)
noncomputable def l_X5_text_27 (p1 : Int32) (p2 : Int32) (v3 : Int32) (st : St) : Option ((Int32 × St) ⊕ (Int32 × St)) :=
  (if p2 ≤ v3 then (some (.inr (v3, st))) else (gd (inb p1 4) (gd (inb v3 60) (ls (sA st (10 + p1.toNatClampNeg) (upd (st.1 (10 + p1.toNatClampNeg)) v3.toNatClampNeg ((32 : Int32).toInt8.toInt32))) (fun s8 => (some (.inl (v3 + (1 : Int32), s8))))))))
set_option maxHeartbeats 4000000 in
theorem w_X5_text_27 {G : GG} {X : Cx} (h : Ok X (oC G) cX5_text RX5 4 (RM 1))  (p1 : Int32) (p2 : Int32)  (n : Nat) (v3 : Int32) (st : St) (q : Int32 × St) (hq : iter (fun v : Int32 × St => l_X5_text_27 p1 p2 v.1 v.2) n (v3, st) = some q) (kx : Wk X (oC G) 4 q.2 48 [(0, .ref (al (oC G) 0)), (1, .int p1), (2, .int p2), (3, .int q.1)] []) : Wk X (oC G) 4 st 27 [(0, .ref (al (oC G) 0)), (1, .int p1), (2, .int p2), (3, .int v3)] [] := by
  refine iter_rule (hd := (fun v : Int32 × St => Wk X (oC G) 4 v.2 27 [(0, .ref (al (oC G) 0)), (1, .int p1), (2, .int p2), (3, .int v.1)] [])) (ex := (fun v : Int32 × St => Wk X (oC G) 4 v.2 48 [(0, .ref (al (oC G) 0)), (1, .int p1), (2, .int p2), (3, .int v.1)] [])) ?_ n (v3, st) q hq kx
  rintro ⟨v3, st⟩ oo hbv K
  show Wk X (oC G) 4 st 27 [(0, .ref (al (oC G) 0)), (1, .int p1), (2, .int p2), (3, .int v3)] []
  have hf : l_X5_text_27 p1 p2 v3 st = some oo := hbv
  unfold l_X5_text_27 at hf
  refine k_iload_n (pc' := 28) h dX5_text_27 rfl rfl 3 rfl ?_
  refine k_iload_n (pc' := 29) h dX5_text_28 rfl rfl 2 rfl ?_
  refine k_icmp_ge (tgt := 48) (pc' := 32) h dX5_text_29 rfl rfl (fun c5 => ?_) (fun c5 => ?_)
  · replace hf := if_t c5 hf
    refine k_sub (lv' := [(0, .ref (al (oC G) 0)), (1, .int p1), (2, .int p2), (3, .int v3)]) [0, 1, 2, 3] rfl ?_
    exact lp_o hf K
  · replace hf := if_f c5 hf
    refine k_aload_n (pc' := 33) h dX5_text_32 rfl rfl 0 rfl ?_
    refine k_get (v := .ref (al (oC G) 9)) (pc' := 36) h dX5_text_33 rfl bC_us fl_X5_20 rfl ?_
    refine k_iload_n (pc' := 37) h dX5_text_36 rfl rfl 1 rfl ?_
    have g6 := gd_1 hf
    replace hf := gd_2 hf
    refine k_aald (tt := .array .byte) (pc' := 38) h dX5_text_37 rfl rC_texts rfl rfl g6 ?_
    refine k_iload_n (pc' := 39) h dX5_text_38 rfl rfl 3 rfl ?_
    refine k_bipush (pc' := 41) h dX5_text_39 rfl cb_32 ?_
    have g7 := gd_1 hf
    replace hf := gd_2 hf
    refine k_bast (pc' := 42) h dX5_text_41 rfl (aC_text (Nat.le_add_right 10 p1.toNatClampNeg) (Nat.add_lt_add_left (inb_lt g6) 10)) g7 ?_
    obtain ⟨s8, hs8, hf⟩ := ls_s hf
    refine k_st hs8 ?_
    refine k_iinc (lv' := [(0, .ref (al (oC G) 0)), (1, .int p1), (2, .int p2), (3, .int (v3 + (1 : Int32)))]) (pc' := 45) h dX5_text_42 rfl 3 rfl (congrArg (fun z => v3 + z) ci_1) (Nat.le_of_ble_eq_true rfl) [1, 2, 3, 0] rfl ?_
    refine k_goto (tgt := 27) h dX5_text_45 rfl ?_
    refine k_sub (lv' := [(0, .ref (al (oC G) 0)), (1, .int p1), (2, .int p2), (3, .int (v3 + (1 : Int32)))]) [0, 1, 2, 3] rfl ?_
    exact lp_o hf K
noncomputable def f_X5_text (x0 : Int32) (x1 : Int32) (st : St) : Option (Int32 × St) :=
  ((f_X5_isText x0 st).bind (fun q1 => (if q1.1 = 0 then (some ((-1 : Int32), q1.2)) else (if x1 ≤ (60 : Int32) then (if 0 ≤ x1 then ((iter (fun v : Int32 × St => l_X5_text_27 x0 x1 v.1 v.2) fuel ((0 : Int32), q1.2)).bind (fun q9 => (gd (inb x0 4) (ls (sA q9.2 14 (upd (q9.2.1 14) x0.toNatClampNeg x1)) (fun s11 => (some (x1, s11))))))) else ((f_X5_found (5 : Int32) q1.2).bind (fun q12 => (some (q12.1, q12.2))))) else (some ((-1 : Int32), q1.2))))))
set_option maxHeartbeats 4000000 in
theorem c_X5_text {G : GG} (l : Launch) (x0 : Int32) (x1 : Int32) (st : St)  (rr : Int32) (st' : St) (hf : f_X5_text x0 x1 st = some (rr, st')) : MM l yX5_text cX5_text 4 (some .int) 1 (oC G) [.ref (al (oC G) 0), .int x0, .int x1] st (some (.int rr)) st' := by
  refine mk_MM (by decide +kernel) (Nat.le_of_ble_eq_true rfl) (fun X h r => ?_)
  refine k_sub (lv' := [(0, .ref (al (oC G) 0)), (1, .int x0), (2, .int x1)]) [0, 1, 2] rfl ?_
  unfold f_X5_text at hf
  refine k_iload_n (pc' := 1) h dX5_text_0 rfl rfl 1 rfl ?_
  obtain ⟨q1, hq1, hf⟩ := bd_s hf
  refine k_callS (As := [.int x0]) (rest := []) (rv := some (.int q1.1)) (st' := q1.2) (stk' := [.int q1.1]) (pc' := 4) h dX5_text_1 rfl ml_X5_89 wc_X5_isText ws_X5_isText ⟨Nat.le_of_ble_eq_true rfl, Nat.le_of_ble_eq_true rfl⟩ rfl rfl (Nat.le_of_ble_eq_true rfl) (fun l => c_X5_isText l x0 st  _ _ hq1) rfl ?_
  refine k_if_eq (tgt := 13) (pc' := 7) h dX5_text_4 rfl rfl (fun c2 => ?_) (fun c2 => ?_)
  · replace hf := if_t c2 hf
    refine k_iconst (pc' := 14) h dX5_text_13 rfl ci_m1 ?_
    exact k_iret h r dX5_text_14 (lf_i hf)
  · replace hf := if_f c2 hf
    refine k_iload_n (pc' := 8) h dX5_text_7 rfl rfl 2 rfl ?_
    refine k_bipush (pc' := 10) h dX5_text_8 rfl cb_60 ?_
    refine k_icmp_le (tgt := 15) (pc' := 13) h dX5_text_10 rfl rfl (fun c3 => ?_) (fun c3 => ?_)
    · replace hf := if_t c3 hf
      refine k_iload_n (pc' := 16) h dX5_text_15 rfl rfl 2 rfl ?_
      refine k_if_ge (tgt := 25) (pc' := 19) h dX5_text_16 rfl rfl (fun c4 => ?_) (fun c4 => ?_)
      · replace hf := if_t c4 hf
        refine k_iconst (pc' := 26) h dX5_text_25 rfl ci_0 ?_
        refine k_istore_n (lv' := [(0, .ref (al (oC G) 0)), (1, .int x0), (2, .int x1), (3, .int (0 : Int32))]) (pc' := 27) h dX5_text_26 rfl rfl (Nat.le_of_ble_eq_true rfl) [1, 2, 3, 0] rfl ?_
        obtain ⟨q9, hq9, hf⟩ := bd_s hf
        refine w_X5_text_27 h x0 x1  fuel (0 : Int32) q1.2 q9 hq9 ?_
        refine k_aload_n (pc' := 49) h dX5_text_48 rfl rfl 0 rfl ?_
        refine k_get (v := .ref (al (oC G) 14)) (pc' := 52) h dX5_text_49 rfl bC_us fl_X5_23 rfl ?_
        refine k_iload_n (pc' := 53) h dX5_text_52 rfl rfl 1 rfl ?_
        refine k_iload_n (pc' := 54) h dX5_text_53 rfl rfl 2 rfl ?_
        have g10 := gd_1 hf
        replace hf := gd_2 hf
        refine k_iast (pc' := 55) h dX5_text_54 rfl aC_ts g10 ?_
        obtain ⟨s11, hs11, hf⟩ := ls_s hf
        refine k_st hs11 ?_
        refine k_iload_n (pc' := 56) h dX5_text_55 rfl rfl 2 rfl ?_
        exact k_iret h r dX5_text_56 (lf_i hf)
      · replace hf := if_f c4 hf
        refine k_aload_n (pc' := 20) h dX5_text_19 rfl rfl 0 rfl ?_
        refine k_iconst (pc' := 21) h dX5_text_20 rfl ci_5 ?_
        obtain ⟨q12, hq12, hf⟩ := bd_s hf
        refine k_callV (As := [.int (5 : Int32)]) (rest := []) (rv := some (.int q12.1)) (st' := q12.2) (stk' := [.int q12.1]) (pc' := 24) h dX5_text_21 rfl ml_X5_68 wc_X5_found wi_X5_found ⟨Nat.le_of_ble_eq_true rfl, Nat.le_of_ble_eq_true rfl⟩ bC_us rfl rfl rfl rfl (Nat.le_of_ble_eq_true rfl) (fun l => c_X5_found l (5 : Int32) q1.2  _ _ hq12) rfl ?_
        exact k_iret h r dX5_text_24 (lf_i hf)
    · replace hf := if_f c3 hf
      refine k_iconst (pc' := 14) h dX5_text_13 rfl ci_m1 ?_
      exact k_iret h r dX5_text_14 (lf_i hf)
noncomputable def f_X5_textRefusal (x0 : Int32) (st : St) : Option (Int32 × St) :=
  ((f_X5_isText x0 st).bind (fun q1 => (if q1.1 = 0 then (some ((-1 : Int32), q1.2)) else (gd (inb x0 4) (if 0 ≤ (q1.2.1 14 x0.toNatClampNeg) then (some ((0 : Int32), q1.2)) else ((f_X5_found (1 : Int32) q1.2).bind (fun q5 => (some (q5.1, q5.2)))))))))
set_option maxHeartbeats 4000000 in
theorem c_X5_textRefusal {G : GG} (l : Launch) (x0 : Int32) (st : St)  (rr : Int32) (st' : St) (hf : f_X5_textRefusal x0 st = some (rr, st')) : MM l yX5_textRefusal cX5_textRefusal 2 (some .int) 1 (oC G) [.ref (al (oC G) 0), .int x0] st (some (.int rr)) st' := by
  refine mk_MM (by decide +kernel) (Nat.le_of_ble_eq_true rfl) (fun X h r => ?_)
  refine k_sub (lv' := [(0, .ref (al (oC G) 0)), (1, .int x0)]) [0, 1] rfl ?_
  unfold f_X5_textRefusal at hf
  refine k_iload_n (pc' := 1) h dX5_textRefusal_0 rfl rfl 1 rfl ?_
  obtain ⟨q1, hq1, hf⟩ := bd_s hf
  refine k_callS (As := [.int x0]) (rest := []) (rv := some (.int q1.1)) (st' := q1.2) (stk' := [.int q1.1]) (pc' := 4) h dX5_textRefusal_1 rfl ml_X5_89 wc_X5_isText ws_X5_isText ⟨Nat.le_of_ble_eq_true rfl, Nat.le_of_ble_eq_true rfl⟩ rfl rfl (Nat.le_of_ble_eq_true rfl) (fun l => c_X5_isText l x0 st  _ _ hq1) rfl ?_
  refine k_if_ne (tgt := 9) (pc' := 7) h dX5_textRefusal_4 rfl rfl (fun c2 => ?_) (fun c2 => ?_)
  · replace hf := if_f c2 hf
    refine k_aload_n (pc' := 10) h dX5_textRefusal_9 rfl rfl 0 rfl ?_
    refine k_get (v := .ref (al (oC G) 14)) (pc' := 13) h dX5_textRefusal_10 rfl bC_us fl_X5_23 rfl ?_
    refine k_iload_n (pc' := 14) h dX5_textRefusal_13 rfl rfl 1 rfl ?_
    have g3 := gd_1 hf
    replace hf := gd_2 hf
    refine k_iald (pc' := 15) h dX5_textRefusal_14 rfl aC_ts g3 ?_
    refine k_if_ge (tgt := 26) (pc' := 18) h dX5_textRefusal_15 rfl rfl (fun c4 => ?_) (fun c4 => ?_)
    · replace hf := if_t c4 hf
      refine k_iconst (pc' := 27) h dX5_textRefusal_26 rfl ci_0 ?_
      exact k_iret h r dX5_textRefusal_27 (lf_i hf)
    · replace hf := if_f c4 hf
      refine k_aload_n (pc' := 19) h dX5_textRefusal_18 rfl rfl 0 rfl ?_
      refine k_iconst (pc' := 20) h dX5_textRefusal_19 rfl ci_1 ?_
      obtain ⟨q5, hq5, hf⟩ := bd_s hf
      refine k_callV (As := [.int (1 : Int32)]) (rest := []) (rv := some (.int q5.1)) (st' := q5.2) (stk' := [.int q5.1]) (pc' := 23) h dX5_textRefusal_20 rfl ml_X5_68 wc_X5_found wi_X5_found ⟨Nat.le_of_ble_eq_true rfl, Nat.le_of_ble_eq_true rfl⟩ bC_us rfl rfl rfl rfl (Nat.le_of_ble_eq_true rfl) (fun l => c_X5_found l (1 : Int32) q1.2  _ _ hq5) rfl ?_
      refine k_goto (tgt := 27) h dX5_textRefusal_23 rfl ?_
      exact k_iret h r dX5_textRefusal_27 (lf_i hf)
  · replace hf := if_t c2 hf
    refine k_iconst (pc' := 8) h dX5_textRefusal_7 rfl ci_m1 ?_
    exact k_iret h r dX5_textRefusal_8 (lf_i hf)
noncomputable def f_X5_put (x0 : Int32) (x1 : Int32) (x2 : Int32) (st : St) : Option (Int32 × St) :=
  ((f_X5_textRefusal x0 st).bind (fun q1 => (if q1.1 = 0 then (if x1 < 0 then ((f_X5_found (2 : Int32) q1.2).bind (fun q4 => (some (q4.1, q4.2)))) else (gd (inb x0 4) (if x1 < (q1.2.1 14 x0.toNatClampNeg) then (gd (inb x0 4) (gd (inb x1 60) (lw (q1.2.1 (10 + x0.toNatClampNeg) x1.toNatClampNeg) (fun y9 => (gd (inb x0 4) (gd (inb x1 60) (ls (sA q1.2 (10 + x0.toNatClampNeg) (upd (q1.2.1 (10 + x0.toNatClampNeg)) x1.toNatClampNeg (x2.toInt8.toInt32.toInt8.toInt32))) (fun s12 => (some (y9 + (1000 : Int32), s12)))))))))) else ((f_X5_found (2 : Int32) q1.2).bind (fun q13 => (some (q13.1, q13.2))))))) else (some (q1.1, q1.2)))))
set_option maxHeartbeats 4000000 in
theorem c_X5_put {G : GG} (l : Launch) (x0 : Int32) (x1 : Int32) (x2 : Int32) (st : St)  (rr : Int32) (st' : St) (hf : f_X5_put x0 x1 x2 st = some (rr, st')) : MM l yX5_put cX5_put 6 (some .int) 2 (oC G) [.ref (al (oC G) 0), .int x0, .int x1, .int x2] st (some (.int rr)) st' := by
  refine mk_MM (by decide +kernel) (Nat.le_of_ble_eq_true rfl) (fun X h r => ?_)
  refine k_sub (lv' := [(0, .ref (al (oC G) 0)), (1, .int x0), (2, .int x1), (3, .int x2)]) [0, 1, 2, 3] rfl ?_
  unfold f_X5_put at hf
  refine k_aload_n (pc' := 1) h dX5_put_0 rfl rfl 0 rfl ?_
  refine k_iload_n (pc' := 2) h dX5_put_1 rfl rfl 1 rfl ?_
  obtain ⟨q1, hq1, hf⟩ := bd_s hf
  refine k_callV (As := [.int x0]) (rest := []) (rv := some (.int q1.1)) (st' := q1.2) (stk' := [.int q1.1]) (pc' := 5) h dX5_put_2 rfl ml_X5_92 wc_X5_textRefusal wi_X5_textRefusal ⟨Nat.le_of_ble_eq_true rfl, Nat.le_of_ble_eq_true rfl⟩ bC_us rfl rfl rfl rfl (Nat.le_of_ble_eq_true rfl) (fun l => c_X5_textRefusal l x0 st  _ _ hq1) rfl ?_
  refine k_istore (lv' := [(0, .ref (al (oC G) 0)), (1, .int x0), (2, .int x1), (3, .int x2), (4, .int q1.1)]) (pc' := 7) h dX5_put_5 rfl (Nat.le_of_ble_eq_true rfl) [1, 2, 3, 4, 0] rfl ?_
  refine k_iload (pc' := 9) h dX5_put_7 rfl 4 rfl ?_
  refine k_if_eq (tgt := 15) (pc' := 12) h dX5_put_9 rfl rfl (fun c2 => ?_) (fun c2 => ?_)
  · replace hf := if_t c2 hf
    refine k_iload_n (pc' := 16) h dX5_put_15 rfl rfl 2 rfl ?_
    refine k_if_lt (tgt := 29) (pc' := 19) h dX5_put_16 rfl rfl (fun c3 => ?_) (fun c3 => ?_)
    · replace hf := if_t c3 hf
      refine k_aload_n (pc' := 30) h dX5_put_29 rfl rfl 0 rfl ?_
      refine k_iconst (pc' := 31) h dX5_put_30 rfl ci_2 ?_
      obtain ⟨q4, hq4, hf⟩ := bd_s hf
      refine k_callV (As := [.int (2 : Int32)]) (rest := []) (rv := some (.int q4.1)) (st' := q4.2) (stk' := [.int q4.1]) (pc' := 34) h dX5_put_31 rfl ml_X5_68 wc_X5_found wi_X5_found ⟨Nat.le_of_ble_eq_true rfl, Nat.le_of_ble_eq_true rfl⟩ bC_us rfl rfl rfl rfl (Nat.le_of_ble_eq_true rfl) (fun l => c_X5_found l (2 : Int32) q1.2  _ _ hq4) rfl ?_
      exact k_iret h r dX5_put_34 (lf_i hf)
    · replace hf := if_f c3 hf
      refine k_iload_n (pc' := 20) h dX5_put_19 rfl rfl 2 rfl ?_
      refine k_aload_n (pc' := 21) h dX5_put_20 rfl rfl 0 rfl ?_
      refine k_get (v := .ref (al (oC G) 14)) (pc' := 24) h dX5_put_21 rfl bC_us fl_X5_23 rfl ?_
      refine k_iload_n (pc' := 25) h dX5_put_24 rfl rfl 1 rfl ?_
      have g5 := gd_1 hf
      replace hf := gd_2 hf
      refine k_iald (pc' := 26) h dX5_put_25 rfl aC_ts g5 ?_
      refine k_icmp_lt (tgt := 35) (pc' := 29) h dX5_put_26 rfl rfl (fun c6 => ?_) (fun c6 => ?_)
      · replace hf := if_t c6 hf
        refine k_aload_n (pc' := 36) h dX5_put_35 rfl rfl 0 rfl ?_
        refine k_get (v := .ref (al (oC G) 9)) (pc' := 39) h dX5_put_36 rfl bC_us fl_X5_20 rfl ?_
        refine k_iload_n (pc' := 40) h dX5_put_39 rfl rfl 1 rfl ?_
        have g7 := gd_1 hf
        replace hf := gd_2 hf
        refine k_aald (tt := .array .byte) (pc' := 41) h dX5_put_40 rfl rC_texts rfl rfl g7 ?_
        refine k_iload_n (pc' := 42) h dX5_put_41 rfl rfl 2 rfl ?_
        have g8 := gd_1 hf
        replace hf := gd_2 hf
        refine k_bald (pc' := 43) h dX5_put_42 rfl (aC_text (Nat.le_add_right 10 x0.toNatClampNeg) (Nat.add_lt_add_left (inb_lt g7) 10)) g8 ?_
        obtain ⟨y9, hy9, hf⟩ := lw_s hf
        refine k_eqi hy9 ?_
        refine k_istore (lv' := [(0, .ref (al (oC G) 0)), (1, .int x0), (2, .int x1), (3, .int x2), (4, .int q1.1), (5, .int y9)]) (pc' := 45) h dX5_put_43 rfl (Nat.le_of_ble_eq_true rfl) [1, 2, 3, 4, 5, 0] rfl ?_
        refine k_aload_n (pc' := 46) h dX5_put_45 rfl rfl 0 rfl ?_
        refine k_get (v := .ref (al (oC G) 9)) (pc' := 49) h dX5_put_46 rfl bC_us fl_X5_20 rfl ?_
        refine k_iload_n (pc' := 50) h dX5_put_49 rfl rfl 1 rfl ?_
        have g10 := gd_1 hf
        replace hf := gd_2 hf
        refine k_aald (tt := .array .byte) (pc' := 51) h dX5_put_50 rfl rC_texts rfl rfl g10 ?_
        refine k_iload_n (pc' := 52) h dX5_put_51 rfl rfl 2 rfl ?_
        refine k_iload_n (pc' := 53) h dX5_put_52 rfl rfl 3 rfl ?_
        refine k_i2b (pc' := 54) h dX5_put_53 rfl ?_
        have g11 := gd_1 hf
        replace hf := gd_2 hf
        refine k_bast (pc' := 55) h dX5_put_54 rfl (aC_text (Nat.le_add_right 10 x0.toNatClampNeg) (Nat.add_lt_add_left (inb_lt g10) 10)) g11 ?_
        obtain ⟨s12, hs12, hf⟩ := ls_s hf
        refine k_st hs12 ?_
        refine k_iload (pc' := 57) h dX5_put_55 rfl 5 rfl ?_
        refine k_sipush (pc' := 60) h dX5_put_57 rfl cs_1000 ?_
        refine k_iadd (pc' := 61) h dX5_put_60 rfl ?_
        exact k_iret h r dX5_put_61 (lf_i hf)
      · replace hf := if_f c6 hf
        refine k_aload_n (pc' := 30) h dX5_put_29 rfl rfl 0 rfl ?_
        refine k_iconst (pc' := 31) h dX5_put_30 rfl ci_2 ?_
        obtain ⟨q13, hq13, hf⟩ := bd_s hf
        refine k_callV (As := [.int (2 : Int32)]) (rest := []) (rv := some (.int q13.1)) (st' := q13.2) (stk' := [.int q13.1]) (pc' := 34) h dX5_put_31 rfl ml_X5_68 wc_X5_found wi_X5_found ⟨Nat.le_of_ble_eq_true rfl, Nat.le_of_ble_eq_true rfl⟩ bC_us rfl rfl rfl rfl (Nat.le_of_ble_eq_true rfl) (fun l => c_X5_found l (2 : Int32) q1.2  _ _ hq13) rfl ?_
        exact k_iret h r dX5_put_34 (lf_i hf)
  · replace hf := if_f c2 hf
    refine k_iload (pc' := 14) h dX5_put_12 rfl 4 rfl ?_
    exact k_iret h r dX5_put_14 (lf_i hf)
noncomputable def f_X5_mayStand (x0 : Int32) (x1 : Int32) (st : St) : Option (Int32 × St) :=
  (if x1 = 0 then ((f_X5_kindOf x0 st).bind (fun q7 => (if q7.1 = (-9 : Int32) then (some ((0 : Int32), q7.2)) else (some ((1 : Int32), q7.2))))) else (lw (x0 - (48 : Int32)) (fun y2 => (gd (inb x1 6) (if y2 < (tb1 x1.toNatClampNeg) then (some ((0 : Int32), st)) else (gd (inb x1 6) (if (tb2 x1.toNatClampNeg) < y2 then (some ((0 : Int32), st)) else (some ((1 : Int32), st)))))))))
set_option maxHeartbeats 4000000 in
theorem c_X5_mayStand {G : GG} (l : Launch) (x0 : Int32) (x1 : Int32) (st : St)  (rr : Int32) (st' : St) (hf : f_X5_mayStand x0 x1 st = some (rr, st')) : MM l yX5_mayStand cX5_mayStand 3 (some .boolean) 1 (oC G) [.int x0, .int x1] st (some (.int rr)) st' := by
  refine mk_MM (by decide +kernel) (Nat.le_of_ble_eq_true rfl) (fun X h r => ?_)
  refine k_sub (lv' := [(0, .int x0), (1, .int x1)]) [0, 1] rfl ?_
  unfold f_X5_mayStand at hf
  refine k_iload_n (pc' := 1) h dX5_mayStand_0 rfl rfl 1 rfl ?_
  refine k_if_ne (tgt := 19) (pc' := 4) h dX5_mayStand_1 rfl rfl (fun c1 => ?_) (fun c1 => ?_)
  · replace hf := if_f c1 hf
    refine k_iload_n (pc' := 20) h dX5_mayStand_19 rfl rfl 0 rfl ?_
    refine k_bipush (pc' := 22) h dX5_mayStand_20 rfl cb_48 ?_
    refine k_isub (pc' := 23) h dX5_mayStand_22 rfl ?_
    obtain ⟨y2, hy2, hf⟩ := lw_s hf
    refine k_eqi hy2 ?_
    refine k_istore_n (lv' := [(0, .int x0), (1, .int x1), (2, .int y2)]) (pc' := 24) h dX5_mayStand_23 rfl rfl (Nat.le_of_ble_eq_true rfl) [1, 2, 0] rfl ?_
    refine k_iload_n (pc' := 25) h dX5_mayStand_24 rfl rfl 2 rfl ?_
    refine k_gets1 (pc' := 28) h dX5_mayStand_25 rfl gs_X5_331 ?_
    refine k_iload_n (pc' := 29) h dX5_mayStand_28 rfl rfl 1 rfl ?_
    have g3 := gd_1 hf
    replace hf := gd_2 hf
    refine k_tld1 (pc' := 30) h dX5_mayStand_29 rfl g3 ?_
    refine k_icmp_lt (tgt := 46) (pc' := 33) h dX5_mayStand_30 rfl rfl (fun c4 => ?_) (fun c4 => ?_)
    · replace hf := if_t c4 hf
      refine k_iconst (pc' := 47) h dX5_mayStand_46 rfl ci_0 ?_
      exact k_zret h r dX5_mayStand_47 (by decide) (lf_i hf)
    · replace hf := if_f c4 hf
      refine k_iload_n (pc' := 34) h dX5_mayStand_33 rfl rfl 2 rfl ?_
      refine k_gets2 (pc' := 37) h dX5_mayStand_34 rfl gs_X5_334 ?_
      refine k_iload_n (pc' := 38) h dX5_mayStand_37 rfl rfl 1 rfl ?_
      have g5 := gd_1 hf
      replace hf := gd_2 hf
      refine k_tld2 (pc' := 39) h dX5_mayStand_38 rfl g5 ?_
      refine k_icmp_gt (tgt := 46) (pc' := 42) h dX5_mayStand_39 rfl rfl (fun c6 => ?_) (fun c6 => ?_)
      · replace hf := if_t c6 hf
        refine k_iconst (pc' := 47) h dX5_mayStand_46 rfl ci_0 ?_
        exact k_zret h r dX5_mayStand_47 (by decide) (lf_i hf)
      · replace hf := if_f c6 hf
        refine k_iconst (pc' := 43) h dX5_mayStand_42 rfl ci_1 ?_
        refine k_goto (tgt := 47) h dX5_mayStand_43 rfl ?_
        exact k_zret h r dX5_mayStand_47 (by decide) (lf_i hf)
  · replace hf := if_t c1 hf
    refine k_iload_n (pc' := 5) h dX5_mayStand_4 rfl rfl 0 rfl ?_
    obtain ⟨q7, hq7, hf⟩ := bd_s hf
    refine k_callS (As := [.int x0]) (rest := []) (rv := some (.int q7.1)) (st' := q7.2) (stk' := [.int q7.1]) (pc' := 8) h dX5_mayStand_5 rfl ml_X5_328 wc_X5_kindOf ws_X5_kindOf ⟨Nat.le_of_ble_eq_true rfl, Nat.le_of_ble_eq_true rfl⟩ rfl rfl (Nat.le_of_ble_eq_true rfl) (fun l => c_X5_kindOf l x0 st  _ _ hq7) rfl ?_
    refine k_bipush (pc' := 10) h dX5_mayStand_8 rfl cb_m9 ?_
    refine k_icmp_eq (tgt := 17) (pc' := 13) h dX5_mayStand_10 rfl rfl (fun c8 => ?_) (fun c8 => ?_)
    · replace hf := if_t c8 hf
      refine k_iconst (pc' := 18) h dX5_mayStand_17 rfl ci_0 ?_
      exact k_zret h r dX5_mayStand_18 (by decide) (lf_i hf)
    · replace hf := if_f c8 hf
      refine k_iconst (pc' := 14) h dX5_mayStand_13 rfl ci_1 ?_
      refine k_goto (tgt := 18) h dX5_mayStand_14 rfl ?_
      exact k_zret h r dX5_mayStand_18 (by decide) (lf_i hf)
noncomputable def l_X5_itemFault_2 (p0 : Nat) (p1 : Int32) (p2 : Int32) (v3 : Int32) (st : St) : Option ((Int32 × St) ⊕ ((Int32 × St) ⊕ (Int32 × St))) :=
  (if (6 : Int32) ≤ v3 then (some (.inr (.inr (v3, st)))) else (lw (p2 + v3) (fun y2 => (if p1 ≤ y2 then (some (.inr (.inl (y2, st)))) else (gd (inb y2 60) ((f_X5_mayStand (st.1 p0 y2.toNatClampNeg) v3 st).bind (fun q5 => (if q5.1 = 0 then (some (.inr (.inl (y2, q5.2)))) else (some (.inl (v3 + (1 : Int32), q5.2)))))))))))
set_option maxHeartbeats 4000000 in
theorem w_X5_itemFault_2 {G : GG} {X : Cx} (h : Ok X (oC G) cX5_itemFault RX5 5 (RM 2)) {P : Option Value → St → Prop} (r : Rt X (oC G) P (some .int)) (p0 : Nat) (p1 : Int32) (p2 : Int32) (hp0a : 10 ≤ p0) (hp0b : p0 < 14) (n : Nat) (v3 : Int32) (st : St) (q : (Int32 × St) ⊕ (Int32 × St)) (hq : iter (fun v : Int32 × St => l_X5_itemFault_2 p0 p1 p2 v.1 v.2) n (v3, st) = some q) (kr : ∀ rs, q = .inl rs → P (some (.int rs.1)) rs.2) (kx : ∀ v : Int32 × St, q = .inr v → Wk X (oC G) 5 v.2 39 [(0, .ref (al (oC G) p0)), (1, .int p1), (2, .int p2), (3, .int v.1)] []) : Wk X (oC G) 5 st 2 [(0, .ref (al (oC G) p0)), (1, .int p1), (2, .int p2), (3, .int v3)] [] := by
  refine iter_rule (hd := (fun v : Int32 × St => Wk X (oC G) 5 v.2 2 [(0, .ref (al (oC G) p0)), (1, .int p1), (2, .int p2), (3, .int v.1)] [])) (ex := (Sum.elim (fun rs : Int32 × St => P (some (.int rs.1)) rs.2) (fun v : Int32 × St => Wk X (oC G) 5 v.2 39 [(0, .ref (al (oC G) p0)), (1, .int p1), (2, .int p2), (3, .int v.1)] []))) ?_ n (v3, st) q hq (by cases q with
    | inl rs => exact kr rs rfl
    | inr v => exact kx v rfl)
  rintro ⟨v3, st⟩ oo hbv K
  show Wk X (oC G) 5 st 2 [(0, .ref (al (oC G) p0)), (1, .int p1), (2, .int p2), (3, .int v3)] []
  have hf : l_X5_itemFault_2 p0 p1 p2 v3 st = some oo := hbv
  unfold l_X5_itemFault_2 at hf
  refine k_iload_n (pc' := 3) h dX5_itemFault_2 rfl rfl 3 rfl ?_
  refine k_bipush (pc' := 5) h dX5_itemFault_3 rfl cb_6 ?_
  refine k_icmp_ge (tgt := 39) (pc' := 8) h dX5_itemFault_5 rfl rfl (fun c1 => ?_) (fun c1 => ?_)
  · replace hf := if_t c1 hf
    refine k_sub (lv' := [(0, .ref (al (oC G) p0)), (1, .int p1), (2, .int p2), (3, .int v3)]) [0, 1, 2, 3] rfl ?_
    exact lp_o hf K
  · replace hf := if_f c1 hf
    refine k_iload_n (pc' := 9) h dX5_itemFault_8 rfl rfl 2 rfl ?_
    refine k_iload_n (pc' := 10) h dX5_itemFault_9 rfl rfl 3 rfl ?_
    refine k_iadd (pc' := 11) h dX5_itemFault_10 rfl ?_
    obtain ⟨y2, hy2, hf⟩ := lw_s hf
    refine k_eqi hy2 ?_
    refine k_istore (lv' := [(0, .ref (al (oC G) p0)), (1, .int p1), (2, .int p2), (3, .int v3), (4, .int y2)]) (pc' := 13) h dX5_itemFault_11 rfl (Nat.le_of_ble_eq_true rfl) [1, 2, 3, 4, 0] rfl ?_
    refine k_iload (pc' := 15) h dX5_itemFault_13 rfl 4 rfl ?_
    refine k_iload_n (pc' := 16) h dX5_itemFault_15 rfl rfl 1 rfl ?_
    refine k_icmp_ge (tgt := 30) (pc' := 19) h dX5_itemFault_16 rfl rfl (fun c3 => ?_) (fun c3 => ?_)
    · replace hf := if_t c3 hf
      refine k_iload (pc' := 32) h dX5_itemFault_30 rfl 4 rfl ?_
      exact k_iret h r dX5_itemFault_32 (lp_o hf K)
    · replace hf := if_f c3 hf
      refine k_aload_n (pc' := 20) h dX5_itemFault_19 rfl rfl 0 rfl ?_
      refine k_iload (pc' := 22) h dX5_itemFault_20 rfl 4 rfl ?_
      have g4 := gd_1 hf
      replace hf := gd_2 hf
      refine k_bald (pc' := 23) h dX5_itemFault_22 rfl (aC_text hp0a hp0b) g4 ?_
      refine k_iload_n (pc' := 24) h dX5_itemFault_23 rfl rfl 3 rfl ?_
      obtain ⟨q5, hq5, hf⟩ := bd_s hf
      refine k_callS (As := [.int (st.1 p0 y2.toNatClampNeg), .int v3]) (rest := []) (rv := some (.int q5.1)) (st' := q5.2) (stk' := [.int q5.1]) (pc' := 27) h dX5_itemFault_24 rfl ml_X5_325 wc_X5_mayStand ws_X5_mayStand ⟨Nat.le_of_ble_eq_true rfl, Nat.le_of_ble_eq_true rfl⟩ rfl rfl (Nat.le_of_ble_eq_true rfl) (fun l => c_X5_mayStand l (st.1 p0 y2.toNatClampNeg) v3 st  _ _ hq5) rfl ?_
      refine k_if_ne (tgt := 33) (pc' := 30) h dX5_itemFault_27 rfl rfl (fun c6 => ?_) (fun c6 => ?_)
      · replace hf := if_f c6 hf
        refine k_iinc (lv' := [(0, .ref (al (oC G) p0)), (1, .int p1), (2, .int p2), (3, .int (v3 + (1 : Int32))), (4, .int y2)]) (pc' := 36) h dX5_itemFault_33 rfl 3 rfl (congrArg (fun z => v3 + z) ci_1) (Nat.le_of_ble_eq_true rfl) [1, 2, 3, 0, 4] rfl ?_
        refine k_goto (tgt := 2) h dX5_itemFault_36 rfl ?_
        refine k_sub (lv' := [(0, .ref (al (oC G) p0)), (1, .int p1), (2, .int p2), (3, .int (v3 + (1 : Int32)))]) [0, 1, 2, 3] rfl ?_
        exact lp_o hf K
      · replace hf := if_t c6 hf
        refine k_iload (pc' := 32) h dX5_itemFault_30 rfl 4 rfl ?_
        exact k_iret h r dX5_itemFault_32 (lp_o hf K)
noncomputable def f_X5_itemFault (k0 : Nat) (x1 : Int32) (x2 : Int32) (st : St) : Option (Int32 × St) :=
  ((iter (fun v : Int32 × St => l_X5_itemFault_2 k0 x1 x2 v.1 v.2) fuel ((0 : Int32), st)).bind (fun q7 => Sum.elim (fun rs9 => some rs9) (fun v8 => (some ((-9 : Int32), v8.2))) q7))
set_option maxHeartbeats 4000000 in
theorem c_X5_itemFault {G : GG} (l : Launch) (k0 : Nat) (x1 : Int32) (x2 : Int32) (st : St) (hk0a : 10 ≤ k0) (hk0b : k0 < 14) (rr : Int32) (st' : St) (hf : f_X5_itemFault k0 x1 x2 st = some (rr, st')) : MM l yX5_itemFault cX5_itemFault 5 (some .int) 2 (oC G) [.ref (al (oC G) k0), .int x1, .int x2] st (some (.int rr)) st' := by
  refine mk_MM (by decide +kernel) (Nat.le_of_ble_eq_true rfl) (fun X h r => ?_)
  refine k_sub (lv' := [(0, .ref (al (oC G) k0)), (1, .int x1), (2, .int x2)]) [0, 1, 2] rfl ?_
  unfold f_X5_itemFault at hf
  refine k_iconst (pc' := 1) h dX5_itemFault_0 rfl ci_0 ?_
  refine k_istore_n (lv' := [(0, .ref (al (oC G) k0)), (1, .int x1), (2, .int x2), (3, .int (0 : Int32))]) (pc' := 2) h dX5_itemFault_1 rfl rfl (Nat.le_of_ble_eq_true rfl) [1, 2, 3, 0] rfl ?_
  obtain ⟨q7, hq7, hf⟩ := bd_s hf
  refine w_X5_itemFault_2 h r k0 x1 x2 hk0a hk0b fuel (0 : Int32) st q7 hq7 (fun rs9 ers9 => ?_) (fun v8 ev8 => ?_)
  · subst ers9
    exact lf_i hf
  · subst ev8
    replace hf := sel_r hf
    refine k_bipush (pc' := 41) h dX5_itemFault_39 rfl cb_m9 ?_
    exact k_iret h r dX5_itemFault_41 (lf_i hf)
noncomputable def l_X5_faultOf_4 (p0 : Nat) (p1 : Int32) (v2 : Int32) (v3 : Int32) (st : St) : Option ((Int32 × Int32 × St) ⊕ ((Int32 × St) ⊕ (Int32 × Int32 × St))) :=
  (if p1 ≤ v3 then (some (.inr (.inr (v2, v3, st)))) else (gd (inb v3 60) (if (st.1 p0 v3.toNatClampNeg) = (32 : Int32) then (some (.inl (v2, v3 + (1 : Int32), st))) else (if v2 = (6 : Int32) then (some (.inr (.inl (v3, st)))) else ((f_X5_itemFault p0 p1 v3 st).bind (fun q5 => (if q5.1 = (-9 : Int32) then (some (.inl (v2 + (1 : Int32), v3 + (6 : Int32), q5.2))) else (some (.inr (.inl (q5.1, q5.2)))))))))))
set_option maxHeartbeats 4000000 in
theorem w_X5_faultOf_4 {G : GG} {X : Cx} (h : Ok X (oC G) cX5_faultOf RX5 5 (RM 3)) {P : Option Value → St → Prop} (r : Rt X (oC G) P (some .int)) (p0 : Nat) (p1 : Int32) (hp0a : 10 ≤ p0) (hp0b : p0 < 14) (n : Nat) (v2 : Int32) (v3 : Int32) (st : St) (q : (Int32 × St) ⊕ (Int32 × Int32 × St)) (hq : iter (fun v : Int32 × Int32 × St => l_X5_faultOf_4 p0 p1 v.1 v.2.1 v.2.2) n (v2, v3, st) = some q) (kr : ∀ rs, q = .inl rs → P (some (.int rs.1)) rs.2) (kx : ∀ v : Int32 × Int32 × St, q = .inr v → Wk X (oC G) 5 v.2.2 58 [(0, .ref (al (oC G) p0)), (1, .int p1), (2, .int v.1), (3, .int v.2.1)] []) : Wk X (oC G) 5 st 4 [(0, .ref (al (oC G) p0)), (1, .int p1), (2, .int v2), (3, .int v3)] [] := by
  refine iter_rule (hd := (fun v : Int32 × Int32 × St => Wk X (oC G) 5 v.2.2 4 [(0, .ref (al (oC G) p0)), (1, .int p1), (2, .int v.1), (3, .int v.2.1)] [])) (ex := (Sum.elim (fun rs : Int32 × St => P (some (.int rs.1)) rs.2) (fun v : Int32 × Int32 × St => Wk X (oC G) 5 v.2.2 58 [(0, .ref (al (oC G) p0)), (1, .int p1), (2, .int v.1), (3, .int v.2.1)] []))) ?_ n (v2, v3, st) q hq (by cases q with
    | inl rs => exact kr rs rfl
    | inr v => exact kx v rfl)
  rintro ⟨v2, v3, st⟩ oo hbv K
  show Wk X (oC G) 5 st 4 [(0, .ref (al (oC G) p0)), (1, .int p1), (2, .int v2), (3, .int v3)] []
  have hf : l_X5_faultOf_4 p0 p1 v2 v3 st = some oo := hbv
  unfold l_X5_faultOf_4 at hf
  refine k_iload_n (pc' := 5) h dX5_faultOf_4 rfl rfl 3 rfl ?_
  refine k_iload_n (pc' := 6) h dX5_faultOf_5 rfl rfl 1 rfl ?_
  refine k_icmp_ge (tgt := 58) (pc' := 9) h dX5_faultOf_6 rfl rfl (fun c1 => ?_) (fun c1 => ?_)
  · replace hf := if_t c1 hf
    refine k_sub (lv' := [(0, .ref (al (oC G) p0)), (1, .int p1), (2, .int v2), (3, .int v3)]) [0, 1, 2, 3] rfl ?_
    exact lp_o hf K
  · replace hf := if_f c1 hf
    refine k_aload_n (pc' := 10) h dX5_faultOf_9 rfl rfl 0 rfl ?_
    refine k_iload_n (pc' := 11) h dX5_faultOf_10 rfl rfl 3 rfl ?_
    have g2 := gd_1 hf
    replace hf := gd_2 hf
    refine k_bald (pc' := 12) h dX5_faultOf_11 rfl (aC_text hp0a hp0b) g2 ?_
    refine k_bipush (pc' := 14) h dX5_faultOf_12 rfl cb_32 ?_
    refine k_icmp_ne (tgt := 23) (pc' := 17) h dX5_faultOf_14 rfl rfl (fun c3 => ?_) (fun c3 => ?_)
    · replace hf := if_f c3 hf
      refine k_iload_n (pc' := 24) h dX5_faultOf_23 rfl rfl 2 rfl ?_
      refine k_bipush (pc' := 26) h dX5_faultOf_24 rfl cb_6 ?_
      refine k_icmp_ne (tgt := 31) (pc' := 29) h dX5_faultOf_26 rfl rfl (fun c4 => ?_) (fun c4 => ?_)
      · replace hf := if_f c4 hf
        refine k_aload_n (pc' := 32) h dX5_faultOf_31 rfl rfl 0 rfl ?_
        refine k_iload_n (pc' := 33) h dX5_faultOf_32 rfl rfl 1 rfl ?_
        refine k_iload_n (pc' := 34) h dX5_faultOf_33 rfl rfl 3 rfl ?_
        obtain ⟨q5, hq5, hf⟩ := bd_s hf
        refine k_callS (As := [.ref (al (oC G) p0), .int p1, .int v3]) (rest := []) (rv := some (.int q5.1)) (st' := q5.2) (stk' := [.int q5.1]) (pc' := 37) h dX5_faultOf_34 rfl ml_X5_321 wc_X5_itemFault ws_X5_itemFault ⟨Nat.le_of_ble_eq_true rfl, Nat.le_of_ble_eq_true rfl⟩ rfl rfl (Nat.le_of_ble_eq_true rfl) (fun l => c_X5_itemFault l p0 p1 v3 st hp0a hp0b _ _ hq5) rfl ?_
        refine k_istore (lv' := [(0, .ref (al (oC G) p0)), (1, .int p1), (2, .int v2), (3, .int v3), (4, .int q5.1)]) (pc' := 39) h dX5_faultOf_37 rfl (Nat.le_of_ble_eq_true rfl) [1, 2, 3, 4, 0] rfl ?_
        refine k_iload (pc' := 41) h dX5_faultOf_39 rfl 4 rfl ?_
        refine k_bipush (pc' := 43) h dX5_faultOf_41 rfl cb_m9 ?_
        refine k_icmp_eq (tgt := 49) (pc' := 46) h dX5_faultOf_43 rfl rfl (fun c6 => ?_) (fun c6 => ?_)
        · replace hf := if_t c6 hf
          refine k_iinc (lv' := [(0, .ref (al (oC G) p0)), (1, .int p1), (2, .int (v2 + (1 : Int32))), (3, .int v3), (4, .int q5.1)]) (pc' := 52) h dX5_faultOf_49 rfl 2 rfl (congrArg (fun z => v2 + z) ci_1) (Nat.le_of_ble_eq_true rfl) [1, 2, 0, 3, 4] rfl ?_
          refine k_iinc (lv' := [(0, .ref (al (oC G) p0)), (1, .int p1), (2, .int (v2 + (1 : Int32))), (3, .int (v3 + (6 : Int32))), (4, .int q5.1)]) (pc' := 55) h dX5_faultOf_52 rfl 3 rfl (congrArg (fun z => v3 + z) ci_6) (Nat.le_of_ble_eq_true rfl) [1, 2, 3, 0, 4] rfl ?_
          refine k_goto (tgt := 4) h dX5_faultOf_55 rfl ?_
          refine k_sub (lv' := [(0, .ref (al (oC G) p0)), (1, .int p1), (2, .int (v2 + (1 : Int32))), (3, .int (v3 + (6 : Int32)))]) [0, 1, 2, 3] rfl ?_
          exact lp_o hf K
        · replace hf := if_f c6 hf
          refine k_iload (pc' := 48) h dX5_faultOf_46 rfl 4 rfl ?_
          exact k_iret h r dX5_faultOf_48 (lp_o hf K)
      · replace hf := if_t c4 hf
        refine k_iload_n (pc' := 30) h dX5_faultOf_29 rfl rfl 3 rfl ?_
        exact k_iret h r dX5_faultOf_30 (lp_o hf K)
    · replace hf := if_t c3 hf
      refine k_iinc (lv' := [(0, .ref (al (oC G) p0)), (1, .int p1), (2, .int v2), (3, .int (v3 + (1 : Int32)))]) (pc' := 20) h dX5_faultOf_17 rfl 3 rfl (congrArg (fun z => v3 + z) ci_1) (Nat.le_of_ble_eq_true rfl) [1, 2, 3, 0] rfl ?_
      refine k_goto (tgt := 4) h dX5_faultOf_20 rfl ?_
      refine k_sub (lv' := [(0, .ref (al (oC G) p0)), (1, .int p1), (2, .int v2), (3, .int (v3 + (1 : Int32)))]) [0, 1, 2, 3] rfl ?_
      exact lp_o hf K
noncomputable def f_X5_faultOf (k0 : Nat) (x1 : Int32) (st : St) : Option (Int32 × St) :=
  ((iter (fun v : Int32 × Int32 × St => l_X5_faultOf_4 k0 x1 v.1 v.2.1 v.2.2) fuel ((0 : Int32), (0 : Int32), st)).bind (fun q7 => Sum.elim (fun rs9 => some rs9) (fun v8 => (if v8.1 = 0 then (some (x1, v8.2.2)) else (some ((-9 : Int32), v8.2.2)))) q7))
set_option maxHeartbeats 4000000 in
theorem c_X5_faultOf {G : GG} (l : Launch) (k0 : Nat) (x1 : Int32) (st : St) (hk0a : 10 ≤ k0) (hk0b : k0 < 14) (rr : Int32) (st' : St) (hf : f_X5_faultOf k0 x1 st = some (rr, st')) : MM l yX5_faultOf cX5_faultOf 5 (some .int) 3 (oC G) [.ref (al (oC G) k0), .int x1] st (some (.int rr)) st' := by
  refine mk_MM (by decide +kernel) (Nat.le_of_ble_eq_true rfl) (fun X h r => ?_)
  refine k_sub (lv' := [(0, .ref (al (oC G) k0)), (1, .int x1)]) [0, 1] rfl ?_
  unfold f_X5_faultOf at hf
  refine k_iconst (pc' := 1) h dX5_faultOf_0 rfl ci_0 ?_
  refine k_istore_n (lv' := [(0, .ref (al (oC G) k0)), (1, .int x1), (2, .int (0 : Int32))]) (pc' := 2) h dX5_faultOf_1 rfl rfl (Nat.le_of_ble_eq_true rfl) [1, 2, 0] rfl ?_
  refine k_iconst (pc' := 3) h dX5_faultOf_2 rfl ci_0 ?_
  refine k_istore_n (lv' := [(0, .ref (al (oC G) k0)), (1, .int x1), (2, .int (0 : Int32)), (3, .int (0 : Int32))]) (pc' := 4) h dX5_faultOf_3 rfl rfl (Nat.le_of_ble_eq_true rfl) [1, 2, 3, 0] rfl ?_
  obtain ⟨q7, hq7, hf⟩ := bd_s hf
  refine w_X5_faultOf_4 h r k0 x1 hk0a hk0b fuel (0 : Int32) (0 : Int32) st q7 hq7 (fun rs9 ers9 => ?_) (fun v8 ev8 => ?_)
  · subst ers9
    exact lf_i hf
  · subst ev8
    replace hf := sel_r hf
    refine k_iload_n (pc' := 59) h dX5_faultOf_58 rfl rfl 2 rfl ?_
    refine k_if_ne (tgt := 66) (pc' := 62) h dX5_faultOf_59 rfl rfl (fun c10 => ?_) (fun c10 => ?_)
    · replace hf := if_f c10 hf
      refine k_bipush (pc' := 68) h dX5_faultOf_66 rfl cb_m9 ?_
      exact k_iret h r dX5_faultOf_68 (lf_i hf)
    · replace hf := if_t c10 hf
      refine k_iload_n (pc' := 63) h dX5_faultOf_62 rfl rfl 1 rfl ?_
      refine k_goto (tgt := 68) h dX5_faultOf_63 rfl ?_
      exact k_iret h r dX5_faultOf_68 (lf_i hf)
