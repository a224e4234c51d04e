noncomputable def l_X5_lineUp_6 (p1 : Int32) (p2 : Int32) (p3 : Int32) (v4 : Int32) (v5 : Int32) (st : St) : Option ((Int32 × Int32 × St) ⊕ (Int32 × Int32 × St)) :=
  (if (st.1 15 2) ≤ v5 then (some (.inr (v4, v5, st))) else (gd (inb v5 6) ((f_X2_isKnown (17 + v5.toNatClampNeg) st).bind (fun q3 => (if q3.1 = p3 then (gd (inb p1 6) (gd (inb v4 40) (ls (sA q3.2 (2 + p1.toNatClampNeg) (upd (q3.2.1 (2 + p1.toNatClampNeg)) v4.toNatClampNeg v5)) (fun s7 => (some (.inl (v4 + (1 : Int32), v5 + (1 : Int32), s7))))))) else (some (.inl (v4, v5 + (1 : Int32), q3.2))))))))
set_option maxHeartbeats 4000000 in
theorem w_X5_lineUp_6 {G : GG} {X : Cx} (h : Ok X (oC G) cX5_lineUp RX5 6 (RM 1))  (p1 : Int32) (p2 : Int32) (p3 : Int32)  (n : Nat) (v4 : Int32) (v5 : Int32) (st : St) (q : Int32 × Int32 × St) (hq : iter (fun v : Int32 × Int32 × St => l_X5_lineUp_6 p1 p2 p3 v.1 v.2.1 v.2.2) n (v4, v5, st) = some q) (kx : Wk X (oC G) 6 q.2.2 55 [(0, .ref (al (oC G) 0)), (1, .int p1), (2, .int p2), (3, .int p3), (4, .int q.1), (5, .int q.2.1)] []) : Wk X (oC G) 6 st 6 [(0, .ref (al (oC G) 0)), (1, .int p1), (2, .int p2), (3, .int p3), (4, .int v4), (5, .int v5)] [] := by
  refine iter_rule (hd := (fun v : Int32 × Int32 × St => Wk X (oC G) 6 v.2.2 6 [(0, .ref (al (oC G) 0)), (1, .int p1), (2, .int p2), (3, .int p3), (4, .int v.1), (5, .int v.2.1)] [])) (ex := (fun v : Int32 × Int32 × St => Wk X (oC G) 6 v.2.2 55 [(0, .ref (al (oC G) 0)), (1, .int p1), (2, .int p2), (3, .int p3), (4, .int v.1), (5, .int v.2.1)] [])) ?_ n (v4, v5, st) q hq kx
  rintro ⟨v4, v5, st⟩ oo hbv K
  show Wk X (oC G) 6 st 6 [(0, .ref (al (oC G) 0)), (1, .int p1), (2, .int p2), (3, .int p3), (4, .int v4), (5, .int v5)] []
  have hf : l_X5_lineUp_6 p1 p2 p3 v4 v5 st = some oo := hbv
  unfold l_X5_lineUp_6 at hf
  refine k_iload (pc' := 8) h dX5_lineUp_6 rfl 5 rfl ?_
  refine k_aload_n (pc' := 9) h dX5_lineUp_8 rfl rfl 0 rfl ?_
  refine k_get (v := .ref (al (oC G) 15)) (pc' := 12) h dX5_lineUp_9 rfl bC_us fl_X5_29 rfl ?_
  refine k_get (v := .int (st.1 15 2)) (pc' := 15) h dX5_lineUp_12 rfl bC_sh fl_X5_107 rfl ?_
  refine k_icmp_ge (tgt := 55) (pc' := 18) h dX5_lineUp_15 rfl rfl (fun c1 => ?_) (fun c1 => ?_)
  · replace hf := if_t c1 hf
    refine k_sub (lv' := [(0, .ref (al (oC G) 0)), (1, .int p1), (2, .int p2), (3, .int p3), (4, .int v4), (5, .int v5)]) [0, 1, 2, 3, 4, 5] rfl ?_
    exact lp_o hf K
  · replace hf := if_f c1 hf
    refine k_aload_n (pc' := 19) h dX5_lineUp_18 rfl rfl 0 rfl ?_
    refine k_get (v := .ref (al (oC G) 15)) (pc' := 22) h dX5_lineUp_19 rfl bC_us fl_X5_29 rfl ?_
    refine k_get (v := .ref (al (oC G) 16)) (pc' := 25) h dX5_lineUp_22 rfl bC_sh fl_X5_116 rfl ?_
    refine k_iload (pc' := 27) h dX5_lineUp_25 rfl 5 rfl ?_
    have g2 := gd_1 hf
    replace hf := gd_2 hf
    refine k_aald (tt := .object "TheUsual$Regular") (pc' := 28) h dX5_lineUp_27 rfl rC_regs rfl rfl g2 ?_
    obtain ⟨q3, hq3, hf⟩ := bd_s hf
    refine k_callV (As := []) (rest := []) (rv := some (.int q3.1)) (st' := q3.2) (stk' := [.int q3.1]) (pc' := 31) h dX5_lineUp_28 rfl ml_X5_304 wc_X2_isKnown wi_X2_isKnown ⟨Nat.le_of_ble_eq_true rfl, Nat.le_of_ble_eq_true rfl⟩ (bC_re (Nat.le_add_right 17 v5.toNatClampNeg) (Nat.add_lt_add_left (inb_lt g2) 17)) rfl rfl rfl rfl (Nat.le_of_ble_eq_true rfl) (fun l => c_X2_isKnown l (17 + v5.toNatClampNeg) st (Nat.le_add_right 17 v5.toNatClampNeg) (Nat.add_lt_add_left (inb_lt g2) 17) _ _ hq3) rfl ?_
    refine k_iload_n (pc' := 32) h dX5_lineUp_31 rfl rfl 3 rfl ?_
    refine k_icmp_ne (tgt := 49) (pc' := 35) h dX5_lineUp_32 rfl rfl (fun c4 => ?_) (fun c4 => ?_)
    · replace hf := if_f c4 hf
      refine k_iinc (lv' := [(0, .ref (al (oC G) 0)), (1, .int p1), (2, .int p2), (3, .int p3), (4, .int v4), (5, .int (v5 + (1 : Int32)))]) (pc' := 52) h dX5_lineUp_49 rfl 5 rfl (congrArg (fun z => v5 + z) ci_1) (Nat.le_of_ble_eq_true rfl) [1, 2, 3, 4, 5, 0] rfl ?_
      refine k_goto (tgt := 6) h dX5_lineUp_52 rfl ?_
      refine k_sub (lv' := [(0, .ref (al (oC G) 0)), (1, .int p1), (2, .int p2), (3, .int p3), (4, .int v4), (5, .int (v5 + (1 : Int32)))]) [0, 1, 2, 3, 4, 5] rfl ?_
      exact lp_o hf K
    · replace hf := if_t c4 hf
      refine k_aload_n (pc' := 36) h dX5_lineUp_35 rfl rfl 0 rfl ?_
      refine k_get (v := .ref (al (oC G) 1)) (pc' := 39) h dX5_lineUp_36 rfl bC_us fl_X5_11 rfl ?_
      refine k_iload_n (pc' := 40) h dX5_lineUp_39 rfl rfl 1 rfl ?_
      have g5 := gd_1 hf
      replace hf := gd_2 hf
      refine k_aald (tt := .array .int) (pc' := 41) h dX5_lineUp_40 rfl rC_rows rfl rfl g5 ?_
      refine k_iload (pc' := 43) h dX5_lineUp_41 rfl 4 rfl ?_
      refine k_iload (pc' := 45) h dX5_lineUp_43 rfl 5 rfl ?_
      have g6 := gd_1 hf
      replace hf := gd_2 hf
      refine k_iast (pc' := 46) h dX5_lineUp_45 rfl (aC_row (Nat.le_add_right 2 p1.toNatClampNeg) (Nat.add_lt_add_left (inb_lt g5) 2)) g6 ?_
      obtain ⟨s7, hs7, hf⟩ := ls_s hf
      refine k_st hs7 ?_
      refine k_iinc (lv' := [(0, .ref (al (oC G) 0)), (1, .int p1), (2, .int p2), (3, .int p3), (4, .int (v4 + (1 : Int32))), (5, .int v5)]) (pc' := 49) h dX5_lineUp_46 rfl 4 rfl (congrArg (fun z => v4 + z) ci_1) (Nat.le_of_ble_eq_true rfl) [1, 2, 3, 4, 0, 5] rfl ?_
      refine k_iinc (lv' := [(0, .ref (al (oC G) 0)), (1, .int p1), (2, .int p2), (3, .int p3), (4, .int (v4 + (1 : Int32))), (5, .int (v5 + (1 : Int32)))]) (pc' := 52) h dX5_lineUp_49 rfl 5 rfl (congrArg (fun z => v5 + z) ci_1) (Nat.le_of_ble_eq_true rfl) [1, 2, 3, 4, 5, 0] rfl ?_
      refine k_goto (tgt := 6) h dX5_lineUp_52 rfl ?_
      refine k_sub (lv' := [(0, .ref (al (oC G) 0)), (1, .int p1), (2, .int p2), (3, .int p3), (4, .int (v4 + (1 : Int32))), (5, .int (v5 + (1 : Int32)))]) [0, 1, 2, 3, 4, 5] rfl ?_
      exact lp_o hf K
noncomputable def f_X5_lineUp (x0 : Int32) (x1 : Int32) (x2 : Int32) (st : St) : Option (Int32 × St) :=
  ((iter (fun v : Int32 × Int32 × St => l_X5_lineUp_6 x0 x1 x2 v.1 v.2.1 v.2.2) fuel (x1, (0 : Int32), st)).bind (fun q8 => (some (q8.1, q8.2.2))))
set_option maxHeartbeats 4000000 in
theorem c_X5_lineUp {G : GG} (l : Launch) (x0 : Int32) (x1 : Int32) (x2 : Int32) (st : St)  (rr : Int32) (st' : St) (hf : f_X5_lineUp x0 x1 x2 st = some (rr, st')) : MM l yX5_lineUp cX5_lineUp 6 (some .int) 1 (oC G) [.ref (al (oC G) 0), .int x0, .int x1, .int x2] st (some (.int rr)) st' := by
  refine mk_MM (by decide +kernel) (Nat.le_of_ble_eq_true rfl) (fun X h r => ?_)
  refine k_sub (lv' := [(0, .ref (al (oC G) 0)), (1, .int x0), (2, .int x1), (3, .int x2)]) [0, 1, 2, 3] rfl ?_
  unfold f_X5_lineUp at hf
  refine k_iload_n (pc' := 1) h dX5_lineUp_0 rfl rfl 2 rfl ?_
  refine k_istore (lv' := [(0, .ref (al (oC G) 0)), (1, .int x0), (2, .int x1), (3, .int x2), (4, .int x1)]) (pc' := 3) h dX5_lineUp_1 rfl (Nat.le_of_ble_eq_true rfl) [1, 2, 3, 4, 0] rfl ?_
  refine k_iconst (pc' := 4) h dX5_lineUp_3 rfl ci_0 ?_
  refine k_istore (lv' := [(0, .ref (al (oC G) 0)), (1, .int x0), (2, .int x1), (3, .int x2), (4, .int x1), (5, .int (0 : Int32))]) (pc' := 6) h dX5_lineUp_4 rfl (Nat.le_of_ble_eq_true rfl) [1, 2, 3, 4, 5, 0] rfl ?_
  obtain ⟨q8, hq8, hf⟩ := bd_s hf
  refine w_X5_lineUp_6 h x0 x1 x2  fuel x1 (0 : Int32) st q8 hq8 ?_
  refine k_iload (pc' := 57) h dX5_lineUp_55 rfl 4 rfl ?_
  exact k_iret h r dX5_lineUp_57 (lf_i hf)
noncomputable def l_X5_order_58 (p1 : Int32) (p2 : Int32) (v3 : Int32) (v4 : Int32) (v5 : Int32) (st : St) : Option ((Int32 × Int32 × Int32 × St) ⊕ (Int32 × Int32 × Int32 × St)) :=
  (if (st.1 15 2) ≤ v5 then (some (.inr (v3, v4, v5, st))) else (lw (v3 + v4) (fun y8 => (if p2 ≤ v5 then (lw (v4 + (40 : Int32)) (fun y10 => (some (.inl (y8, y10, v5 + (1 : Int32), st))))) else (lw (v4 + (9 : Int32)) (fun y11 => (some (.inl (y8, y11, v5 + (1 : Int32), st)))))))))
set_option maxHeartbeats 4000000 in
theorem w_X5_order_58 {G : GG} {X : Cx} (h : Ok X (oC G) cX5_order RX5 6 (RM 2))  (p1 : Int32) (p2 : Int32)  (n : Nat) (v3 : Int32) (v4 : Int32) (v5 : Int32) (st : St) (q : Int32 × Int32 × Int32 × St) (hq : iter (fun v : Int32 × Int32 × Int32 × St => l_X5_order_58 p1 p2 v.1 v.2.1 v.2.2.1 v.2.2.2) n (v3, v4, v5, st) = some q) (kx : Wk X (oC G) 6 q.2.2.2 99 [(0, .ref (al (oC G) 0)), (1, .int p1), (2, .int p2), (3, .int q.1), (4, .int q.2.1), (5, .int q.2.2.1)] []) : Wk X (oC G) 6 st 58 [(0, .ref (al (oC G) 0)), (1, .int p1), (2, .int p2), (3, .int v3), (4, .int v4), (5, .int v5)] [] := by
  refine iter_rule (hd := (fun v : Int32 × Int32 × Int32 × St => Wk X (oC G) 6 v.2.2.2 58 [(0, .ref (al (oC G) 0)), (1, .int p1), (2, .int p2), (3, .int v.1), (4, .int v.2.1), (5, .int v.2.2.1)] [])) (ex := (fun v : Int32 × Int32 × Int32 × St => Wk X (oC G) 6 v.2.2.2 99 [(0, .ref (al (oC G) 0)), (1, .int p1), (2, .int p2), (3, .int v.1), (4, .int v.2.1), (5, .int v.2.2.1)] [])) ?_ n (v3, v4, v5, st) q hq kx
  rintro ⟨v3, v4, v5, st⟩ oo hbv K
  show Wk X (oC G) 6 st 58 [(0, .ref (al (oC G) 0)), (1, .int p1), (2, .int p2), (3, .int v3), (4, .int v4), (5, .int v5)] []
  have hf : l_X5_order_58 p1 p2 v3 v4 v5 st = some oo := hbv
  unfold l_X5_order_58 at hf
  refine k_iload (pc' := 60) h dX5_order_58 rfl 5 rfl ?_
  refine k_aload_n (pc' := 61) h dX5_order_60 rfl rfl 0 rfl ?_
  refine k_get (v := .ref (al (oC G) 15)) (pc' := 64) h dX5_order_61 rfl bC_us fl_X5_29 rfl ?_
  refine k_get (v := .int (st.1 15 2)) (pc' := 67) h dX5_order_64 rfl bC_sh fl_X5_107 rfl ?_
  refine k_icmp_ge (tgt := 99) (pc' := 70) h dX5_order_67 rfl rfl (fun c7 => ?_) (fun c7 => ?_)
  · replace hf := if_t c7 hf
    refine k_sub (lv' := [(0, .ref (al (oC G) 0)), (1, .int p1), (2, .int p2), (3, .int v3), (4, .int v4), (5, .int v5)]) [0, 1, 2, 3, 4, 5] rfl ?_
    exact lp_o hf K
  · replace hf := if_f c7 hf
    refine k_iload_n (pc' := 71) h dX5_order_70 rfl rfl 3 rfl ?_
    refine k_iload (pc' := 73) h dX5_order_71 rfl 4 rfl ?_
    refine k_iadd (pc' := 74) h dX5_order_73 rfl ?_
    obtain ⟨y8, hy8, hf⟩ := lw_s hf
    refine k_eqi hy8 ?_
    refine k_istore_n (lv' := [(0, .ref (al (oC G) 0)), (1, .int p1), (2, .int p2), (3, .int y8), (4, .int v4), (5, .int v5)]) (pc' := 75) h dX5_order_74 rfl rfl (Nat.le_of_ble_eq_true rfl) [1, 2, 3, 0, 4, 5] rfl ?_
    refine k_iload (pc' := 77) h dX5_order_75 rfl 4 rfl ?_
    refine k_iload (pc' := 79) h dX5_order_77 rfl 5 rfl ?_
    refine k_iload_n (pc' := 80) h dX5_order_79 rfl rfl 2 rfl ?_
    refine k_icmp_ge (tgt := 88) (pc' := 83) h dX5_order_80 rfl rfl (fun c9 => ?_) (fun c9 => ?_)
    · replace hf := if_t c9 hf
      refine k_bipush (pc' := 90) h dX5_order_88 rfl cb_40 ?_
      refine k_iadd (pc' := 91) h dX5_order_90 rfl ?_
      obtain ⟨y10, hy10, hf⟩ := lw_s hf
      refine k_eqi hy10 ?_
      refine k_istore (lv' := [(0, .ref (al (oC G) 0)), (1, .int p1), (2, .int p2), (3, .int y8), (4, .int y10), (5, .int v5)]) (pc' := 93) h dX5_order_91 rfl (Nat.le_of_ble_eq_true rfl) [1, 2, 3, 4, 0, 5] rfl ?_
      refine k_iinc (lv' := [(0, .ref (al (oC G) 0)), (1, .int p1), (2, .int p2), (3, .int y8), (4, .int y10), (5, .int (v5 + (1 : Int32)))]) (pc' := 96) h dX5_order_93 rfl 5 rfl (congrArg (fun z => v5 + z) ci_1) (Nat.le_of_ble_eq_true rfl) [1, 2, 3, 4, 5, 0] rfl ?_
      refine k_goto (tgt := 58) h dX5_order_96 rfl ?_
      refine k_sub (lv' := [(0, .ref (al (oC G) 0)), (1, .int p1), (2, .int p2), (3, .int y8), (4, .int y10), (5, .int (v5 + (1 : Int32)))]) [0, 1, 2, 3, 4, 5] rfl ?_
      exact lp_o hf K
    · replace hf := if_f c9 hf
      refine k_bipush (pc' := 85) h dX5_order_83 rfl cb_9 ?_
      refine k_goto (tgt := 90) h dX5_order_85 rfl ?_
      refine k_iadd (pc' := 91) h dX5_order_90 rfl ?_
      obtain ⟨y11, hy11, hf⟩ := lw_s hf
      refine k_eqi hy11 ?_
      refine k_istore (lv' := [(0, .ref (al (oC G) 0)), (1, .int p1), (2, .int p2), (3, .int y8), (4, .int y11), (5, .int v5)]) (pc' := 93) h dX5_order_91 rfl (Nat.le_of_ble_eq_true rfl) [1, 2, 3, 4, 0, 5] rfl ?_
      refine k_iinc (lv' := [(0, .ref (al (oC G) 0)), (1, .int p1), (2, .int p2), (3, .int y8), (4, .int y11), (5, .int (v5 + (1 : Int32)))]) (pc' := 96) h dX5_order_93 rfl 5 rfl (congrArg (fun z => v5 + z) ci_1) (Nat.le_of_ble_eq_true rfl) [1, 2, 3, 4, 5, 0] rfl ?_
      refine k_goto (tgt := 58) h dX5_order_96 rfl ?_
      refine k_sub (lv' := [(0, .ref (al (oC G) 0)), (1, .int p1), (2, .int p2), (3, .int y8), (4, .int y11), (5, .int (v5 + (1 : Int32)))]) [0, 1, 2, 3, 4, 5] rfl ?_
      exact lp_o hf K
noncomputable def f_X5_order (x0 : Int32) (st : St) : Option (Int32 × St) :=
  ((f_X5_isRow x0 st).bind (fun q1 => (if q1.1 = 0 then (some ((-1 : Int32), q1.2)) else (if (q1.2.1 15 2) = 0 then (some ((-4 : Int32), q1.2)) else ((f_X5_makeRow x0 (q1.2.1 15 2) q1.2).bind (fun q4 => ((f_X5_lineUp x0 (0 : Int32) (1 : Int32) q4).bind (fun q5 => ((f_X5_lineUp x0 q5.1 (0 : Int32) q5.2).bind (fun q6 => ((iter (fun v : Int32 × Int32 × Int32 × St => l_X5_order_58 x0 q5.1 v.1 v.2.1 v.2.2.1 v.2.2.2) fuel ((0 : Int32), (0 : Int32), (0 : Int32), q6.2)).bind (fun q12 => (some (q12.1, q12.2.2.2))))))))))))))
set_option maxHeartbeats 4000000 in
theorem c_X5_order {G : GG} (l : Launch) (x0 : Int32) (st : St)  (rr : Int32) (st' : St) (hf : f_X5_order x0 st = some (rr, st')) : MM l yX5_order cX5_order 6 (some .int) 2 (oC G) [.ref (al (oC G) 0), .int x0] st (some (.int rr)) st' := by
  refine mk_MM (by decide +kernel) (Nat.le_of_ble_eq_true rfl) (fun X h r => ?_)
  refine k_sub (lv' := [(0, .ref (al (oC G) 0)), (1, .int x0)]) [0, 1] rfl ?_
  unfold f_X5_order at hf
  refine k_iload_n (pc' := 1) h dX5_order_0 rfl rfl 1 rfl ?_
  obtain ⟨q1, hq1, hf⟩ := bd_s hf
  refine k_callS (As := [.int x0]) (rest := []) (rv := some (.int q1.1)) (st' := q1.2) (stk' := [.int q1.1]) (pc' := 4) h dX5_order_1 rfl ml_X5_64 wc_X5_isRow ws_X5_isRow ⟨Nat.le_of_ble_eq_true rfl, Nat.le_of_ble_eq_true rfl⟩ rfl rfl (Nat.le_of_ble_eq_true rfl) (fun l => c_X5_isRow l x0 st  _ _ hq1) rfl ?_
  refine k_if_ne (tgt := 9) (pc' := 7) h dX5_order_4 rfl rfl (fun c2 => ?_) (fun c2 => ?_)
  · replace hf := if_f c2 hf
    refine k_aload_n (pc' := 10) h dX5_order_9 rfl rfl 0 rfl ?_
    refine k_get (v := .ref (al (oC G) 15)) (pc' := 13) h dX5_order_10 rfl bC_us fl_X5_29 rfl ?_
    refine k_get (v := .int (q1.2.1 15 2)) (pc' := 16) h dX5_order_13 rfl bC_sh fl_X5_107 rfl ?_
    refine k_if_ne (tgt := 22) (pc' := 19) h dX5_order_16 rfl rfl (fun c3 => ?_) (fun c3 => ?_)
    · replace hf := if_f c3 hf
      refine k_aload_n (pc' := 23) h dX5_order_22 rfl rfl 0 rfl ?_
      refine k_iload_n (pc' := 24) h dX5_order_23 rfl rfl 1 rfl ?_
      refine k_aload_n (pc' := 25) h dX5_order_24 rfl rfl 0 rfl ?_
      refine k_get (v := .ref (al (oC G) 15)) (pc' := 28) h dX5_order_25 rfl bC_us fl_X5_29 rfl ?_
      refine k_get (v := .int (q1.2.1 15 2)) (pc' := 31) h dX5_order_28 rfl bC_sh fl_X5_107 rfl ?_
      obtain ⟨q4, hq4, hf⟩ := bd_s hf
      refine k_callV (As := [.int x0, .int (q1.2.1 15 2)]) (rest := []) (rv := none) (st' := q4) (stk' := []) (pc' := 34) h dX5_order_31 rfl ml_X5_72 wc_X5_makeRow wi_X5_makeRow ⟨Nat.le_of_ble_eq_true rfl, Nat.le_of_ble_eq_true rfl⟩ bC_us rfl rfl rfl rfl (Nat.le_of_ble_eq_true rfl) (fun l => c_X5_makeRow l x0 (q1.2.1 15 2) q1.2  _ hq4) rfl ?_
      refine k_aload_n (pc' := 35) h dX5_order_34 rfl rfl 0 rfl ?_
      refine k_iload_n (pc' := 36) h dX5_order_35 rfl rfl 1 rfl ?_
      refine k_iconst (pc' := 37) h dX5_order_36 rfl ci_0 ?_
      refine k_iconst (pc' := 38) h dX5_order_37 rfl ci_1 ?_
      obtain ⟨q5, hq5, hf⟩ := bd_s hf
      refine k_callV (As := [.int x0, .int (0 : Int32), .int (1 : Int32)]) (rest := []) (rv := some (.int q5.1)) (st' := q5.2) (stk' := [.int q5.1]) (pc' := 41) h dX5_order_38 rfl ml_X5_245 wc_X5_lineUp wi_X5_lineUp ⟨Nat.le_of_ble_eq_true rfl, Nat.le_of_ble_eq_true rfl⟩ bC_us rfl rfl rfl rfl (Nat.le_of_ble_eq_true rfl) (fun l => c_X5_lineUp l x0 (0 : Int32) (1 : Int32) q4  _ _ hq5) rfl ?_
      refine k_istore_n (lv' := [(0, .ref (al (oC G) 0)), (1, .int x0), (2, .int q5.1)]) (pc' := 42) h dX5_order_41 rfl rfl (Nat.le_of_ble_eq_true rfl) [1, 2, 0] rfl ?_
      refine k_aload_n (pc' := 43) h dX5_order_42 rfl rfl 0 rfl ?_
      refine k_iload_n (pc' := 44) h dX5_order_43 rfl rfl 1 rfl ?_
      refine k_iload_n (pc' := 45) h dX5_order_44 rfl rfl 2 rfl ?_
      refine k_iconst (pc' := 46) h dX5_order_45 rfl ci_0 ?_
      obtain ⟨q6, hq6, hf⟩ := bd_s hf
      refine k_callV (As := [.int x0, .int q5.1, .int (0 : Int32)]) (rest := []) (rv := some (.int q6.1)) (st' := q6.2) (stk' := [.int q6.1]) (pc' := 49) h dX5_order_46 rfl ml_X5_245 wc_X5_lineUp wi_X5_lineUp ⟨Nat.le_of_ble_eq_true rfl, Nat.le_of_ble_eq_true rfl⟩ bC_us rfl rfl rfl rfl (Nat.le_of_ble_eq_true rfl) (fun l => c_X5_lineUp l x0 q5.1 (0 : Int32) q5.2  _ _ hq6) rfl ?_
      refine k_pop (pc' := 50) h dX5_order_49 rfl rfl ?_
      refine k_iconst (pc' := 51) h dX5_order_50 rfl ci_0 ?_
      refine k_istore_n (lv' := [(0, .ref (al (oC G) 0)), (1, .int x0), (2, .int q5.1), (3, .int (0 : Int32))]) (pc' := 52) h dX5_order_51 rfl rfl (Nat.le_of_ble_eq_true rfl) [1, 2, 3, 0] rfl ?_
      refine k_iconst (pc' := 53) h dX5_order_52 rfl ci_0 ?_
      refine k_istore (lv' := [(0, .ref (al (oC G) 0)), (1, .int x0), (2, .int q5.1), (3, .int (0 : Int32)), (4, .int (0 : Int32))]) (pc' := 55) h dX5_order_53 rfl (Nat.le_of_ble_eq_true rfl) [1, 2, 3, 4, 0] rfl ?_
      refine k_iconst (pc' := 56) h dX5_order_55 rfl ci_0 ?_
      refine k_istore (lv' := [(0, .ref (al (oC G) 0)), (1, .int x0), (2, .int q5.1), (3, .int (0 : Int32)), (4, .int (0 : Int32)), (5, .int (0 : Int32))]) (pc' := 58) h dX5_order_56 rfl (Nat.le_of_ble_eq_true rfl) [1, 2, 3, 4, 5, 0] rfl ?_
      obtain ⟨q12, hq12, hf⟩ := bd_s hf
      refine w_X5_order_58 h x0 q5.1  fuel (0 : Int32) (0 : Int32) (0 : Int32) q6.2 q12 hq12 ?_
      refine k_iload_n (pc' := 100) h dX5_order_99 rfl rfl 3 rfl ?_
      exact k_iret h r dX5_order_100 (lf_i hf)
    · replace hf := if_t c3 hf
      refine k_bipush (pc' := 21) h dX5_order_19 rfl cb_m4 ?_
      exact k_iret h r dX5_order_21 (lf_i hf)
  · replace hf := if_t c2 hf
    refine k_iconst (pc' := 8) h dX5_order_7 rfl ci_m1 ?_
    exact k_iret h r dX5_order_8 (lf_i hf)
noncomputable def l_X5_learn_46 (p1 : Int32) (v2 : Int32) (v3 : Int32) (v4 : Int32) (st : St) : Option ((Int32 × Int32 × Int32 × St) ⊕ (Int32 × Int32 × Int32 × St)) :=
  (if ((1 : Int32) <<< ((st.1 15 2) &&& 31)) ≤ v4 then (some (.inr (v2, v3, v4, st))) else ((f_X3_weekWith v4 st).bind (fun q8 => ((f_J6_bitCount_0f7a4 v4 q8.2).bind (fun q9 => (if q9.1 = p1 then (if v3 ≤ q8.1 then (some (.inl (v2, v3, v4 + (1 : Int32), q9.2))) else (some (.inl (v4, q8.1, v4 + (1 : Int32), q9.2)))) else (some (.inl (v2, v3, v4 + (1 : Int32), q9.2)))))))))
set_option maxHeartbeats 4000000 in
theorem w_X5_learn_46 {G : GG} {X : Cx} (h : Ok X (oC G) cX5_learn RX5 6 (RM 2))  (p1 : Int32)  (n : Nat) (v2 : Int32) (v3 : Int32) (v4 : Int32) (st : St) (q : Int32 × Int32 × Int32 × St) (hq : iter (fun v : Int32 × Int32 × Int32 × St => l_X5_learn_46 p1 v.1 v.2.1 v.2.2.1 v.2.2.2) n (v2, v3, v4, st) = some q) (kx : Wk X (oC G) 6 q.2.2.2 98 [(0, .ref (al (oC G) 0)), (1, .int p1), (2, .int q.1), (3, .int q.2.1), (4, .int q.2.2.1)] []) : Wk X (oC G) 6 st 46 [(0, .ref (al (oC G) 0)), (1, .int p1), (2, .int v2), (3, .int v3), (4, .int v4)] [] := by
  refine iter_rule (hd := (fun v : Int32 × Int32 × Int32 × St => Wk X (oC G) 6 v.2.2.2 46 [(0, .ref (al (oC G) 0)), (1, .int p1), (2, .int v.1), (3, .int v.2.1), (4, .int v.2.2.1)] [])) (ex := (fun v : Int32 × Int32 × Int32 × St => Wk X (oC G) 6 v.2.2.2 98 [(0, .ref (al (oC G) 0)), (1, .int p1), (2, .int v.1), (3, .int v.2.1), (4, .int v.2.2.1)] [])) ?_ n (v2, v3, v4, st) q hq kx
  rintro ⟨v2, v3, v4, st⟩ oo hbv K
  show Wk X (oC G) 6 st 46 [(0, .ref (al (oC G) 0)), (1, .int p1), (2, .int v2), (3, .int v3), (4, .int v4)] []
  have hf : l_X5_learn_46 p1 v2 v3 v4 st = some oo := hbv
  unfold l_X5_learn_46 at hf
  refine k_iload (pc' := 48) h dX5_learn_46 rfl 4 rfl ?_
  refine k_iconst (pc' := 49) h dX5_learn_48 rfl ci_1 ?_
  refine k_aload_n (pc' := 50) h dX5_learn_49 rfl rfl 0 rfl ?_
  refine k_get (v := .ref (al (oC G) 15)) (pc' := 53) h dX5_learn_50 rfl bC_us fl_X5_29 rfl ?_
  refine k_get (v := .int (st.1 15 2)) (pc' := 56) h dX5_learn_53 rfl bC_sh fl_X5_107 rfl ?_
  refine k_ishl (pc' := 57) h dX5_learn_56 rfl ?_
  refine k_icmp_ge (tgt := 98) (pc' := 60) h dX5_learn_57 rfl rfl (fun c7 => ?_) (fun c7 => ?_)
  · replace hf := if_t c7 hf
    refine k_sub (lv' := [(0, .ref (al (oC G) 0)), (1, .int p1), (2, .int v2), (3, .int v3), (4, .int v4)]) [0, 1, 2, 3, 4] rfl ?_
    exact lp_o hf K
  · replace hf := if_f c7 hf
    refine k_aload_n (pc' := 61) h dX5_learn_60 rfl rfl 0 rfl ?_
    refine k_get (v := .ref (al (oC G) 15)) (pc' := 64) h dX5_learn_61 rfl bC_us fl_X5_29 rfl ?_
    refine k_iload (pc' := 66) h dX5_learn_64 rfl 4 rfl ?_
    obtain ⟨q8, hq8, hf⟩ := bd_s hf
    refine k_callV (As := [.int v4]) (rest := []) (rv := some (.int q8.1)) (st' := q8.2) (stk' := [.int q8.1]) (pc' := 69) h dX5_learn_66 rfl ml_X5_249 wc_X3_weekWith wi_X3_weekWith ⟨Nat.le_of_ble_eq_true rfl, Nat.le_of_ble_eq_true rfl⟩ bC_sh rfl rfl rfl rfl (Nat.le_of_ble_eq_true rfl) (fun l => c_X3_weekWith l v4 st  _ _ hq8) rfl ?_
    refine k_istore (lv' := [(0, .ref (al (oC G) 0)), (1, .int p1), (2, .int v2), (3, .int v3), (4, .int v4), (5, .int q8.1)]) (pc' := 71) h dX5_learn_69 rfl (Nat.le_of_ble_eq_true rfl) [1, 2, 3, 4, 5, 0] rfl ?_
    refine k_iload (pc' := 73) h dX5_learn_71 rfl 4 rfl ?_
    obtain ⟨q9, hq9, hf⟩ := bd_s hf
    refine k_callS (As := [.int v4]) (rest := []) (rv := some (.int q9.1)) (st' := q9.2) (stk' := [.int q9.1]) (pc' := 76) h dX5_learn_73 rfl ml_X5_147 wc_J6_bitCount_0f7a4 ws_J6_bitCount_0f7a4 ⟨Nat.le_of_ble_eq_true rfl, Nat.le_of_ble_eq_true rfl⟩ rfl rfl (Nat.le_of_ble_eq_true rfl) (fun l => c_J6_bitCount_0f7a4 l v4 q8.2  _ _ hq9) rfl ?_
    refine k_iload_n (pc' := 77) h dX5_learn_76 rfl rfl 1 rfl ?_
    refine k_icmp_ne (tgt := 92) (pc' := 80) h dX5_learn_77 rfl rfl (fun c10 => ?_) (fun c10 => ?_)
    · replace hf := if_f c10 hf
      refine k_iinc (lv' := [(0, .ref (al (oC G) 0)), (1, .int p1), (2, .int v2), (3, .int v3), (4, .int (v4 + (1 : Int32))), (5, .int q8.1)]) (pc' := 95) h dX5_learn_92 rfl 4 rfl (congrArg (fun z => v4 + z) ci_1) (Nat.le_of_ble_eq_true rfl) [1, 2, 3, 4, 0, 5] rfl ?_
      refine k_goto (tgt := 46) h dX5_learn_95 rfl ?_
      refine k_sub (lv' := [(0, .ref (al (oC G) 0)), (1, .int p1), (2, .int v2), (3, .int v3), (4, .int (v4 + (1 : Int32)))]) [0, 1, 2, 3, 4] rfl ?_
      exact lp_o hf K
    · replace hf := if_t c10 hf
      refine k_iload (pc' := 82) h dX5_learn_80 rfl 5 rfl ?_
      refine k_iload_n (pc' := 83) h dX5_learn_82 rfl rfl 3 rfl ?_
      refine k_icmp_ge (tgt := 92) (pc' := 86) h dX5_learn_83 rfl rfl (fun c11 => ?_) (fun c11 => ?_)
      · replace hf := if_t c11 hf
        refine k_iinc (lv' := [(0, .ref (al (oC G) 0)), (1, .int p1), (2, .int v2), (3, .int v3), (4, .int (v4 + (1 : Int32))), (5, .int q8.1)]) (pc' := 95) h dX5_learn_92 rfl 4 rfl (congrArg (fun z => v4 + z) ci_1) (Nat.le_of_ble_eq_true rfl) [1, 2, 3, 4, 0, 5] rfl ?_
        refine k_goto (tgt := 46) h dX5_learn_95 rfl ?_
        refine k_sub (lv' := [(0, .ref (al (oC G) 0)), (1, .int p1), (2, .int v2), (3, .int v3), (4, .int (v4 + (1 : Int32)))]) [0, 1, 2, 3, 4] rfl ?_
        exact lp_o hf K
      · replace hf := if_f c11 hf
        refine k_iload (pc' := 88) h dX5_learn_86 rfl 4 rfl ?_
        refine k_istore_n (lv' := [(0, .ref (al (oC G) 0)), (1, .int p1), (2, .int v4), (3, .int v3), (4, .int v4), (5, .int q8.1)]) (pc' := 89) h dX5_learn_88 rfl rfl (Nat.le_of_ble_eq_true rfl) [1, 2, 0, 3, 4, 5] rfl ?_
        refine k_iload (pc' := 91) h dX5_learn_89 rfl 5 rfl ?_
        refine k_istore_n (lv' := [(0, .ref (al (oC G) 0)), (1, .int p1), (2, .int v4), (3, .int q8.1), (4, .int v4), (5, .int q8.1)]) (pc' := 92) h dX5_learn_91 rfl rfl (Nat.le_of_ble_eq_true rfl) [1, 2, 3, 0, 4, 5] rfl ?_
        refine k_iinc (lv' := [(0, .ref (al (oC G) 0)), (1, .int p1), (2, .int v4), (3, .int q8.1), (4, .int (v4 + (1 : Int32))), (5, .int q8.1)]) (pc' := 95) h dX5_learn_92 rfl 4 rfl (congrArg (fun z => v4 + z) ci_1) (Nat.le_of_ble_eq_true rfl) [1, 2, 3, 4, 0, 5] rfl ?_
        refine k_goto (tgt := 46) h dX5_learn_95 rfl ?_
        refine k_sub (lv' := [(0, .ref (al (oC G) 0)), (1, .int p1), (2, .int v4), (3, .int q8.1), (4, .int (v4 + (1 : Int32)))]) [0, 1, 2, 3, 4] rfl ?_
        exact lp_o hf K
noncomputable def f_X5_learn (x0 : Int32) (st : St) : Option (Int32 × St) :=
  (if x0 < 0 then (some ((-1 : Int32), st)) else (if x0 ≤ (6 : Int32) then (if x0 ≤ (st.1 15 2) then (lw (((1 : Int32) <<< (x0 &&& 31)) - (1 : Int32)) (fun y4 => ((f_X3_weekWith y4 st).bind (fun q5 => (lw (y4 + (1 : Int32)) (fun y6 => ((iter (fun v : Int32 × Int32 × Int32 × St => l_X5_learn_46 x0 v.1 v.2.1 v.2.2.1 v.2.2.2) fuel (y4, q5.1, y6, q5.2)).bind (fun q12 => (ls (sA q12.2.2.2 0 (upd (q12.2.2.2.1 0) 9 q12.2.1)) (fun s13 => (some (q12.1, s13)))))))))))) else (some ((-4 : Int32), st))) else (some ((-1 : Int32), st))))
set_option maxHeartbeats 4000000 in
theorem c_X5_learn {G : GG} (l : Launch) (x0 : Int32) (st : St)  (rr : Int32) (st' : St) (hf : f_X5_learn x0 st = some (rr, st')) : MM l yX5_learn cX5_learn 6 (some .int) 2 (oC G) [.ref (al (oC G) 0), .int x0] st (some (.int rr)) st' := by
  refine mk_MM (by decide +kernel) (Nat.le_of_ble_eq_true rfl) (fun X h r => ?_)
  refine k_sub (lv' := [(0, .ref (al (oC G) 0)), (1, .int x0)]) [0, 1] rfl ?_
  unfold f_X5_learn at hf
  refine k_iload_n (pc' := 1) h dX5_learn_0 rfl rfl 1 rfl ?_
  refine k_if_lt (tgt := 10) (pc' := 4) h dX5_learn_1 rfl rfl (fun c1 => ?_) (fun c1 => ?_)
  · replace hf := if_t c1 hf
    refine k_iconst (pc' := 11) h dX5_learn_10 rfl ci_m1 ?_
    exact k_iret h r dX5_learn_11 (lf_i hf)
  · replace hf := if_f c1 hf
    refine k_iload_n (pc' := 5) h dX5_learn_4 rfl rfl 1 rfl ?_
    refine k_bipush (pc' := 7) h dX5_learn_5 rfl cb_6 ?_
    refine k_icmp_le (tgt := 12) (pc' := 10) h dX5_learn_7 rfl rfl (fun c2 => ?_) (fun c2 => ?_)
    · replace hf := if_t c2 hf
      refine k_iload_n (pc' := 13) h dX5_learn_12 rfl rfl 1 rfl ?_
      refine k_aload_n (pc' := 14) h dX5_learn_13 rfl rfl 0 rfl ?_
      refine k_get (v := .ref (al (oC G) 15)) (pc' := 17) h dX5_learn_14 rfl bC_us fl_X5_29 rfl ?_
      refine k_get (v := .int (st.1 15 2)) (pc' := 20) h dX5_learn_17 rfl bC_sh fl_X5_107 rfl ?_
      refine k_icmp_le (tgt := 26) (pc' := 23) h dX5_learn_20 rfl rfl (fun c3 => ?_) (fun c3 => ?_)
      · replace hf := if_t c3 hf
        refine k_iconst (pc' := 27) h dX5_learn_26 rfl ci_1 ?_
        refine k_iload_n (pc' := 28) h dX5_learn_27 rfl rfl 1 rfl ?_
        refine k_ishl (pc' := 29) h dX5_learn_28 rfl ?_
        refine k_iconst (pc' := 30) h dX5_learn_29 rfl ci_1 ?_
        refine k_isub (pc' := 31) h dX5_learn_30 rfl ?_
        obtain ⟨y4, hy4, hf⟩ := lw_s hf
        refine k_eqi hy4 ?_
        refine k_istore_n (lv' := [(0, .ref (al (oC G) 0)), (1, .int x0), (2, .int y4)]) (pc' := 32) h dX5_learn_31 rfl rfl (Nat.le_of_ble_eq_true rfl) [1, 2, 0] rfl ?_
        refine k_aload_n (pc' := 33) h dX5_learn_32 rfl rfl 0 rfl ?_
        refine k_get (v := .ref (al (oC G) 15)) (pc' := 36) h dX5_learn_33 rfl bC_us fl_X5_29 rfl ?_
        refine k_iload_n (pc' := 37) h dX5_learn_36 rfl rfl 2 rfl ?_
        obtain ⟨q5, hq5, hf⟩ := bd_s hf
        refine k_callV (As := [.int y4]) (rest := []) (rv := some (.int q5.1)) (st' := q5.2) (stk' := [.int q5.1]) (pc' := 40) h dX5_learn_37 rfl ml_X5_249 wc_X3_weekWith wi_X3_weekWith ⟨Nat.le_of_ble_eq_true rfl, Nat.le_of_ble_eq_true rfl⟩ bC_sh rfl rfl rfl rfl (Nat.le_of_ble_eq_true rfl) (fun l => c_X3_weekWith l y4 st  _ _ hq5) rfl ?_
        refine k_istore_n (lv' := [(0, .ref (al (oC G) 0)), (1, .int x0), (2, .int y4), (3, .int q5.1)]) (pc' := 41) h dX5_learn_40 rfl rfl (Nat.le_of_ble_eq_true rfl) [1, 2, 3, 0] rfl ?_
        refine k_iload_n (pc' := 42) h dX5_learn_41 rfl rfl 2 rfl ?_
        refine k_iconst (pc' := 43) h dX5_learn_42 rfl ci_1 ?_
        refine k_iadd (pc' := 44) h dX5_learn_43 rfl ?_
        obtain ⟨y6, hy6, hf⟩ := lw_s hf
        refine k_eqi hy6 ?_
        refine k_istore (lv' := [(0, .ref (al (oC G) 0)), (1, .int x0), (2, .int y4), (3, .int q5.1), (4, .int y6)]) (pc' := 46) h dX5_learn_44 rfl (Nat.le_of_ble_eq_true rfl) [1, 2, 3, 4, 0] rfl ?_
        obtain ⟨q12, hq12, hf⟩ := bd_s hf
        refine w_X5_learn_46 h x0  fuel y4 q5.1 y6 q5.2 q12 hq12 ?_
        refine k_aload_n (pc' := 99) h dX5_learn_98 rfl rfl 0 rfl ?_
        refine k_iload_n (pc' := 100) h dX5_learn_99 rfl rfl 3 rfl ?_
        refine k_put (pc' := 103) h dX5_learn_100 rfl bC_us fp_X5_53 sf_us_9 sj_us_9 ?_
        obtain ⟨s13, hs13, hf⟩ := ls_s hf
        refine k_st hs13 ?_
        refine k_iload_n (pc' := 104) h dX5_learn_103 rfl rfl 2 rfl ?_
        exact k_iret h r dX5_learn_104 (lf_i hf)
      · replace hf := if_f c3 hf
        refine k_bipush (pc' := 25) h dX5_learn_23 rfl cb_m4 ?_
        exact k_iret h r dX5_learn_25 (lf_i hf)
    · replace hf := if_f c2 hf
      refine k_iconst (pc' := 11) h dX5_learn_10 rfl ci_m1 ?_
      exact k_iret h r dX5_learn_11 (lf_i hf)
noncomputable def l_X5_isBook_2 (p0 : Nat) (p1 : Int32) (v2 : Int32) (st : St) : Option ((Int32 × St) ⊕ ((Int32 × St) ⊕ (Int32 × St))) :=
  (if p1 ≤ (v2 + (1 : Int32)) then (some (.inr (.inr (v2, st)))) else (gd (inb v2 40) ((f_X5_isMorning (st.1 p0 v2.toNatClampNeg) st).bind (fun q3 => (if q3.1 = 0 then (some (.inr (.inl ((0 : Int32), q3.2)))) else (gd (inb (v2 + (1 : Int32)) 40) ((f_X5_isThing (q3.2.1 p0 (v2 + (1 : Int32)).toNatClampNeg) q3.2).bind (fun q6 => (if q6.1 = 0 then (some (.inr (.inl ((0 : Int32), q6.2)))) else (some (.inl (v2 + (2 : Int32), q6.2))))))))))))
set_option maxHeartbeats 4000000 in
theorem w_X5_isBook_2 {G : GG} {X : Cx} (h : Ok X (oC G) cX5_isBook RX5 3 (RM 1)) {P : Option Value → St → Prop} (r : Rt X (oC G) P (some .boolean)) (p0 : Nat) (p1 : Int32) (hp0a : 2 ≤ p0) (hp0b : p0 < 8) (n : Nat) (v2 : Int32) (st : St) (q : (Int32 × St) ⊕ (Int32 × St)) (hq : iter (fun v : Int32 × St => l_X5_isBook_2 p0 p1 v.1 v.2) n (v2, st) = some q) (kr : ∀ rs, q = .inl rs → P (some (.int rs.1)) rs.2) (kx : ∀ v : Int32 × St, q = .inr v → Wk X (oC G) 3 v.2 37 [(0, .ref (al (oC G) p0)), (1, .int p1), (2, .int v.1)] []) : Wk X (oC G) 3 st 2 [(0, .ref (al (oC G) p0)), (1, .int p1), (2, .int v2)] [] := by
  refine iter_rule (hd := (fun v : Int32 × St => Wk X (oC G) 3 v.2 2 [(0, .ref (al (oC G) p0)), (1, .int p1), (2, .int v.1)] [])) (ex := (Sum.elim (fun rs : Int32 × St => P (some (.int rs.1)) rs.2) (fun v : Int32 × St => Wk X (oC G) 3 v.2 37 [(0, .ref (al (oC G) p0)), (1, .int p1), (2, .int v.1)] []))) ?_ n (v2, st) q hq (by cases q with
    | inl rs => exact kr rs rfl
    | inr v => exact kx v rfl)
  rintro ⟨v2, st⟩ oo hbv K
  show Wk X (oC G) 3 st 2 [(0, .ref (al (oC G) p0)), (1, .int p1), (2, .int v2)] []
  have hf : l_X5_isBook_2 p0 p1 v2 st = some oo := hbv
  unfold l_X5_isBook_2 at hf
  refine k_iload_n (pc' := 3) h dX5_isBook_2 rfl rfl 2 rfl ?_
  refine k_iconst (pc' := 4) h dX5_isBook_3 rfl ci_1 ?_
  refine k_iadd (pc' := 5) h dX5_isBook_4 rfl ?_
  refine k_iload_n (pc' := 6) h dX5_isBook_5 rfl rfl 1 rfl ?_
  refine k_icmp_ge (tgt := 37) (pc' := 9) h dX5_isBook_6 rfl rfl (fun c1 => ?_) (fun c1 => ?_)
  · replace hf := if_t c1 hf
    refine k_sub (lv' := [(0, .ref (al (oC G) p0)), (1, .int p1), (2, .int v2)]) [0, 1, 2] rfl ?_
    exact lp_o hf K
  · replace hf := if_f c1 hf
    refine k_aload_n (pc' := 10) h dX5_isBook_9 rfl rfl 0 rfl ?_
    refine k_iload_n (pc' := 11) h dX5_isBook_10 rfl rfl 2 rfl ?_
    have g2 := gd_1 hf
    replace hf := gd_2 hf
    refine k_iald (pc' := 12) h dX5_isBook_11 rfl (aC_row hp0a hp0b) g2 ?_
    obtain ⟨q3, hq3, hf⟩ := bd_s hf
    refine k_callS (As := [.int (st.1 p0 v2.toNatClampNeg)]) (rest := []) (rv := some (.int q3.1)) (st' := q3.2) (stk' := [.int q3.1]) (pc' := 15) h dX5_isBook_12 rfl ml_X5_204 wc_X5_isMorning ws_X5_isMorning ⟨Nat.le_of_ble_eq_true rfl, Nat.le_of_ble_eq_true rfl⟩ rfl rfl (Nat.le_of_ble_eq_true rfl) (fun l => c_X5_isMorning l (st.1 p0 v2.toNatClampNeg) st  _ _ hq3) rfl ?_
    refine k_if_eq (tgt := 29) (pc' := 18) h dX5_isBook_15 rfl rfl (fun c4 => ?_) (fun c4 => ?_)
    · replace hf := if_t c4 hf
      refine k_iconst (pc' := 30) h dX5_isBook_29 rfl ci_0 ?_
      exact k_zret h r dX5_isBook_30 (by decide) (lp_o hf K)
    · replace hf := if_f c4 hf
      refine k_aload_n (pc' := 19) h dX5_isBook_18 rfl rfl 0 rfl ?_
      refine k_iload_n (pc' := 20) h dX5_isBook_19 rfl rfl 2 rfl ?_
      refine k_iconst (pc' := 21) h dX5_isBook_20 rfl ci_1 ?_
      refine k_iadd (pc' := 22) h dX5_isBook_21 rfl ?_
      have g5 := gd_1 hf
      replace hf := gd_2 hf
      refine k_iald (pc' := 23) h dX5_isBook_22 rfl (aC_row hp0a hp0b) g5 ?_
      obtain ⟨q6, hq6, hf⟩ := bd_s hf
      refine k_callS (As := [.int (q3.2.1 p0 (v2 + (1 : Int32)).toNatClampNeg)]) (rest := []) (rv := some (.int q6.1)) (st' := q6.2) (stk' := [.int q6.1]) (pc' := 26) h dX5_isBook_23 rfl ml_X5_155 wc_X5_isThing ws_X5_isThing ⟨Nat.le_of_ble_eq_true rfl, Nat.le_of_ble_eq_true rfl⟩ rfl rfl (Nat.le_of_ble_eq_true rfl) (fun l => c_X5_isThing l (q3.2.1 p0 (v2 + (1 : Int32)).toNatClampNeg) q3.2  _ _ hq6) rfl ?_
      refine k_if_ne (tgt := 31) (pc' := 29) h dX5_isBook_26 rfl rfl (fun c7 => ?_) (fun c7 => ?_)
      · replace hf := if_f c7 hf
        refine k_iinc (lv' := [(0, .ref (al (oC G) p0)), (1, .int p1), (2, .int (v2 + (2 : Int32)))]) (pc' := 34) h dX5_isBook_31 rfl 2 rfl (congrArg (fun z => v2 + z) ci_2) (Nat.le_of_ble_eq_true rfl) [1, 2, 0] rfl ?_
        refine k_goto (tgt := 2) h dX5_isBook_34 rfl ?_
        refine k_sub (lv' := [(0, .ref (al (oC G) p0)), (1, .int p1), (2, .int (v2 + (2 : Int32)))]) [0, 1, 2] rfl ?_
        exact lp_o hf K
      · replace hf := if_t c7 hf
        refine k_iconst (pc' := 30) h dX5_isBook_29 rfl ci_0 ?_
        exact k_zret h r dX5_isBook_30 (by decide) (lp_o hf K)
noncomputable def f_X5_isBook (k0 : Nat) (x1 : Int32) (st : St) : Option (Int32 × St) :=
  ((iter (fun v : Int32 × St => l_X5_isBook_2 k0 x1 v.1 v.2) fuel ((0 : Int32), st)).bind (fun q8 => Sum.elim (fun rs10 => some rs10) (fun v9 => (some ((1 : Int32), v9.2))) q8))
set_option maxHeartbeats 4000000 in
theorem c_X5_isBook {G : GG} (l : Launch) (k0 : Nat) (x1 : Int32) (st : St) (hk0a : 2 ≤ k0) (hk0b : k0 < 8) (rr : Int32) (st' : St) (hf : f_X5_isBook k0 x1 st = some (rr, st')) : MM l yX5_isBook cX5_isBook 3 (some .boolean) 1 (oC G) [.ref (al (oC G) k0), .int x1] st (some (.int rr)) st' := by
  refine mk_MM (by decide +kernel) (Nat.le_of_ble_eq_true rfl) (fun X h r => ?_)
  refine k_sub (lv' := [(0, .ref (al (oC G) k0)), (1, .int x1)]) [0, 1] rfl ?_
  unfold f_X5_isBook at hf
  refine k_iconst (pc' := 1) h dX5_isBook_0 rfl ci_0 ?_
  refine k_istore_n (lv' := [(0, .ref (al (oC G) k0)), (1, .int x1), (2, .int (0 : Int32))]) (pc' := 2) h dX5_isBook_1 rfl rfl (Nat.le_of_ble_eq_true rfl) [1, 2, 0] rfl ?_
  obtain ⟨q8, hq8, hf⟩ := bd_s hf
  refine w_X5_isBook_2 h r k0 x1 hk0a hk0b fuel (0 : Int32) st q8 hq8 (fun rs10 ers10 => ?_) (fun v9 ev9 => ?_)
  · subst ers10
    exact lf_i hf
  · subst ev9
    replace hf := sel_r hf
    refine k_iconst (pc' := 38) h dX5_isBook_37 rfl ci_1 ?_
    exact k_zret h r dX5_isBook_38 (by decide) (lf_i hf)
noncomputable def f_X5_bookRefusal (x0 : Int32) (st : St) : Option (Int32 × St) :=
  ((f_X5_rowRefusal x0 st).bind (fun q1 => (if q1.1 = 0 then (gd (inb x0 6) (gd (nz (2 : Int32)) (if ((q1.2.1 8 x0.toNatClampNeg) - (q1.2.1 8 x0.toNatClampNeg) / (2 : Int32) * (2 : Int32)) = 0 then (gd (inb x0 6) (gd (inb x0 6) ((f_X5_isBook (2 + x0.toNatClampNeg) (q1.2.1 8 x0.toNatClampNeg) q1.2).bind (fun q8 => (if q8.1 = 0 then ((f_X5_found (3 : Int32) q8.2).bind (fun q10 => (some (q10.1, q10.2)))) else (some ((0 : Int32), q8.2))))))) else ((f_X5_found (5 : Int32) q1.2).bind (fun q11 => (some (q11.1, q11.2))))))) else (some (q1.1, q1.2)))))
set_option maxHeartbeats 4000000 in
theorem c_X5_bookRefusal {G : GG} (l : Launch) (x0 : Int32) (st : St)  (rr : Int32) (st' : St) (hf : f_X5_bookRefusal x0 st = some (rr, st')) : MM l yX5_bookRefusal cX5_bookRefusal 3 (some .int) 2 (oC G) [.ref (al (oC G) 0), .int x0] st (some (.int rr)) st' := by
  refine mk_MM (by decide +kernel) (Nat.le_of_ble_eq_true rfl) (fun X h r => ?_)
  refine k_sub (lv' := [(0, .ref (al (oC G) 0)), (1, .int x0)]) [0, 1] rfl ?_
  unfold f_X5_bookRefusal at hf
  refine k_aload_n (pc' := 1) h dX5_bookRefusal_0 rfl rfl 0 rfl ?_
  refine k_iload_n (pc' := 2) h dX5_bookRefusal_1 rfl rfl 1 rfl ?_
  obtain ⟨q1, hq1, hf⟩ := bd_s hf
  refine k_callV (As := [.int x0]) (rest := []) (rv := some (.int q1.1)) (st' := q1.2) (stk' := [.int q1.1]) (pc' := 5) h dX5_bookRefusal_2 rfl ml_X5_80 wc_X5_rowRefusal wi_X5_rowRefusal ⟨Nat.le_of_ble_eq_true rfl, Nat.le_of_ble_eq_true rfl⟩ bC_us rfl rfl rfl rfl (Nat.le_of_ble_eq_true rfl) (fun l => c_X5_rowRefusal l x0 st  _ _ hq1) rfl ?_
  refine k_istore_n (lv' := [(0, .ref (al (oC G) 0)), (1, .int x0), (2, .int q1.1)]) (pc' := 6) h dX5_bookRefusal_5 rfl rfl (Nat.le_of_ble_eq_true rfl) [1, 2, 0] rfl ?_
  refine k_iload_n (pc' := 7) h dX5_bookRefusal_6 rfl rfl 2 rfl ?_
  refine k_if_eq (tgt := 12) (pc' := 10) h dX5_bookRefusal_7 rfl rfl (fun c2 => ?_) (fun c2 => ?_)
  · replace hf := if_t c2 hf
    refine k_aload_n (pc' := 13) h dX5_bookRefusal_12 rfl rfl 0 rfl ?_
    refine k_get (v := .ref (al (oC G) 8)) (pc' := 16) h dX5_bookRefusal_13 rfl bC_us fl_X5_14 rfl ?_
    refine k_iload_n (pc' := 17) h dX5_bookRefusal_16 rfl rfl 1 rfl ?_
    have g3 := gd_1 hf
    replace hf := gd_2 hf
    refine k_iald (pc' := 18) h dX5_bookRefusal_17 rfl aC_rs g3 ?_
    refine k_iconst (pc' := 19) h dX5_bookRefusal_18 rfl ci_2 ?_
    have g4 := gd_1 hf
    replace hf := gd_2 hf
    refine k_irem (pc' := 20) h dX5_bookRefusal_19 rfl (nz_n g4) ?_
    refine k_if_eq (tgt := 29) (pc' := 23) h dX5_bookRefusal_20 rfl rfl (fun c5 => ?_) (fun c5 => ?_)
    · replace hf := if_t c5 hf
      refine k_aload_n (pc' := 30) h dX5_bookRefusal_29 rfl rfl 0 rfl ?_
      refine k_get (v := .ref (al (oC G) 1)) (pc' := 33) h dX5_bookRefusal_30 rfl bC_us fl_X5_11 rfl ?_
      refine k_iload_n (pc' := 34) h dX5_bookRefusal_33 rfl rfl 1 rfl ?_
      have g6 := gd_1 hf
      replace hf := gd_2 hf
      refine k_aald (tt := .array .int) (pc' := 35) h dX5_bookRefusal_34 rfl rC_rows rfl rfl g6 ?_
      refine k_aload_n (pc' := 36) h dX5_bookRefusal_35 rfl rfl 0 rfl ?_
      refine k_get (v := .ref (al (oC G) 8)) (pc' := 39) h dX5_bookRefusal_36 rfl bC_us fl_X5_14 rfl ?_
      refine k_iload_n (pc' := 40) h dX5_bookRefusal_39 rfl rfl 1 rfl ?_
      have g7 := gd_1 hf
      replace hf := gd_2 hf
      refine k_iald (pc' := 41) h dX5_bookRefusal_40 rfl aC_rs g7 ?_
      obtain ⟨q8, hq8, hf⟩ := bd_s hf
      refine k_callS (As := [.ref (al (oC G) (2 + x0.toNatClampNeg)), .int (q1.2.1 8 x0.toNatClampNeg)]) (rest := []) (rv := some (.int q8.1)) (st' := q8.2) (stk' := [.int q8.1]) (pc' := 44) h dX5_bookRefusal_41 rfl ml_X5_301 wc_X5_isBook ws_X5_isBook ⟨Nat.le_of_ble_eq_true rfl, Nat.le_of_ble_eq_true rfl⟩ rfl rfl (Nat.le_of_ble_eq_true rfl) (fun l => c_X5_isBook l (2 + x0.toNatClampNeg) (q1.2.1 8 x0.toNatClampNeg) q1.2 (Nat.le_add_right 2 x0.toNatClampNeg) (Nat.add_lt_add_left (inb_lt g6) 2) _ _ hq8) rfl ?_
      refine k_if_eq (tgt := 51) (pc' := 47) h dX5_bookRefusal_44 rfl rfl (fun c9 => ?_) (fun c9 => ?_)
      · replace hf := if_t c9 hf
        refine k_aload_n (pc' := 52) h dX5_bookRefusal_51 rfl rfl 0 rfl ?_
        refine k_iconst (pc' := 53) h dX5_bookRefusal_52 rfl ci_3 ?_
        obtain ⟨q10, hq10, hf⟩ := bd_s hf
        refine k_callV (As := [.int (3 : Int32)]) (rest := []) (rv := some (.int q10.1)) (st' := q10.2) (stk' := [.int q10.1]) (pc' := 56) h dX5_bookRefusal_53 rfl ml_X5_68 wc_X5_found wi_X5_found ⟨Nat.le_of_ble_eq_true rfl, Nat.le_of_ble_eq_true rfl⟩ bC_us rfl rfl rfl rfl (Nat.le_of_ble_eq_true rfl) (fun l => c_X5_found l (3 : Int32) q8.2  _ _ hq10) rfl ?_
        exact k_iret h r dX5_bookRefusal_56 (lf_i hf)
      · replace hf := if_f c9 hf
        refine k_iconst (pc' := 48) h dX5_bookRefusal_47 rfl ci_0 ?_
        refine k_goto (tgt := 56) h dX5_bookRefusal_48 rfl ?_
        exact k_iret h r dX5_bookRefusal_56 (lf_i hf)
    · replace hf := if_f c5 hf
      refine k_aload_n (pc' := 24) h dX5_bookRefusal_23 rfl rfl 0 rfl ?_
      refine k_iconst (pc' := 25) h dX5_bookRefusal_24 rfl ci_5 ?_
      obtain ⟨q11, hq11, hf⟩ := bd_s hf
      refine k_callV (As := [.int (5 : Int32)]) (rest := []) (rv := some (.int q11.1)) (st' := q11.2) (stk' := [.int q11.1]) (pc' := 28) h dX5_bookRefusal_25 rfl ml_X5_68 wc_X5_found wi_X5_found ⟨Nat.le_of_ble_eq_true rfl, Nat.le_of_ble_eq_true rfl⟩ bC_us rfl rfl rfl rfl (Nat.le_of_ble_eq_true rfl) (fun l => c_X5_found l (5 : Int32) q1.2  _ _ hq11) rfl ?_
      exact k_iret h r dX5_bookRefusal_28 (lf_i hf)
  · replace hf := if_f c2 hf
    refine k_iload_n (pc' := 11) h dX5_bookRefusal_10 rfl rfl 2 rfl ?_
    exact k_iret h r dX5_bookRefusal_11 (lf_i hf)
noncomputable def l_X5_unlikeSales_6 (p0 : Nat) (p1 : Int32) (p2 : Int32) (p3 : Int32) (p4 : Int32) (v5 : Int32) (v6 : Int32) (st : St) : Option ((Int32 × Int32 × St) ⊕ (Int32 × Int32 × St)) :=
  (if p1 ≤ (v6 + (1 : Int32)) then (some (.inr (v5, v6, st))) else (gd (inb v6 40) ((f_X5_wantsOther p2 (st.1 p0 v6.toNatClampNeg) st).bind (fun q3 => (if q3.1 = 0 then (gd (inb (v6 + (1 : Int32)) 40) (if p3 = (q3.2.1 p0 (v6 + (1 : Int32)).toNatClampNeg) then (some (.inl (v5, v6 + (2 : Int32), q3.2))) else (some (.inl (v5 + (1 : Int32), v6 + (2 : Int32), q3.2))))) else (gd (inb (v6 + (1 : Int32)) 40) (if p4 = (q3.2.1 p0 (v6 + (1 : Int32)).toNatClampNeg) then (some (.inl (v5, v6 + (2 : Int32), q3.2))) else (some (.inl (v5 + (1 : Int32), v6 + (2 : Int32), q3.2))))))))))
set_option maxHeartbeats 4000000 in
theorem w_X5_unlikeSales_6 {G : GG} {X : Cx} (h : Ok X (oC G) cX5_unlikeSales RX5 8 (RM 1))  (p0 : Nat) (p1 : Int32) (p2 : Int32) (p3 : Int32) (p4 : Int32) (hp0a : 2 ≤ p0) (hp0b : p0 < 8) (n : Nat) (v5 : Int32) (v6 : Int32) (st : St) (q : Int32 × Int32 × St) (hq : iter (fun v : Int32 × Int32 × St => l_X5_unlikeSales_6 p0 p1 p2 p3 p4 v.1 v.2.1 v.2.2) n (v5, v6, st) = some q) (kx : Wk X (oC G) 8 q.2.2 53 [(0, .ref (al (oC G) p0)), (1, .int p1), (2, .int p2), (3, .int p3), (4, .int p4), (5, .int q.1), (6, .int q.2.1)] []) : Wk X (oC G) 8 st 6 [(0, .ref (al (oC G) p0)), (1, .int p1), (2, .int p2), (3, .int p3), (4, .int p4), (5, .int v5), (6, .int v6)] [] := by
  refine iter_rule (hd := (fun v : Int32 × Int32 × St => Wk X (oC G) 8 v.2.2 6 [(0, .ref (al (oC G) p0)), (1, .int p1), (2, .int p2), (3, .int p3), (4, .int p4), (5, .int v.1), (6, .int v.2.1)] [])) (ex := (fun v : Int32 × Int32 × St => Wk X (oC G) 8 v.2.2 53 [(0, .ref (al (oC G) p0)), (1, .int p1), (2, .int p2), (3, .int p3), (4, .int p4), (5, .int v.1), (6, .int v.2.1)] [])) ?_ n (v5, v6, st) q hq kx
  rintro ⟨v5, v6, st⟩ oo hbv K
  show Wk X (oC G) 8 st 6 [(0, .ref (al (oC G) p0)), (1, .int p1), (2, .int p2), (3, .int p3), (4, .int p4), (5, .int v5), (6, .int v6)] []
  have hf : l_X5_unlikeSales_6 p0 p1 p2 p3 p4 v5 v6 st = some oo := hbv
  unfold l_X5_unlikeSales_6 at hf
  refine k_iload (pc' := 8) h dX5_unlikeSales_6 rfl 6 rfl ?_
  refine k_iconst (pc' := 9) h dX5_unlikeSales_8 rfl ci_1 ?_
  refine k_iadd (pc' := 10) h dX5_unlikeSales_9 rfl ?_
  refine k_iload_n (pc' := 11) h dX5_unlikeSales_10 rfl rfl 1 rfl ?_
  refine k_icmp_ge (tgt := 53) (pc' := 14) h dX5_unlikeSales_11 rfl rfl (fun c1 => ?_) (fun c1 => ?_)
  · replace hf := if_t c1 hf
    refine k_sub (lv' := [(0, .ref (al (oC G) p0)), (1, .int p1), (2, .int p2), (3, .int p3), (4, .int p4), (5, .int v5), (6, .int v6)]) [0, 1, 2, 3, 4, 5, 6] rfl ?_
    exact lp_o hf K
  · replace hf := if_f c1 hf
    refine k_iload_n (pc' := 15) h dX5_unlikeSales_14 rfl rfl 2 rfl ?_
    refine k_aload_n (pc' := 16) h dX5_unlikeSales_15 rfl rfl 0 rfl ?_
    refine k_iload (pc' := 18) h dX5_unlikeSales_16 rfl 6 rfl ?_
    have g2 := gd_1 hf
    replace hf := gd_2 hf
    refine k_iald (pc' := 19) h dX5_unlikeSales_18 rfl (aC_row hp0a hp0b) g2 ?_
    obtain ⟨q3, hq3, hf⟩ := bd_s hf
    refine k_callS (As := [.int p2, .int (st.1 p0 v6.toNatClampNeg)]) (rest := []) (rv := some (.int q3.1)) (st' := q3.2) (stk' := [.int q3.1]) (pc' := 22) h dX5_unlikeSales_19 rfl ml_X5_314 wc_X5_wantsOther ws_X5_wantsOther ⟨Nat.le_of_ble_eq_true rfl, Nat.le_of_ble_eq_true rfl⟩ rfl rfl (Nat.le_of_ble_eq_true rfl) (fun l => c_X5_wantsOther l p2 (st.1 p0 v6.toNatClampNeg) st  _ _ hq3) rfl ?_
    refine k_if_eq (tgt := 30) (pc' := 25) h dX5_unlikeSales_22 rfl rfl (fun c4 => ?_) (fun c4 => ?_)
    · replace hf := if_t c4 hf
      refine k_iload_n (pc' := 31) h dX5_unlikeSales_30 rfl rfl 3 rfl ?_
      refine k_istore (lv' := [(0, .ref (al (oC G) p0)), (1, .int p1), (2, .int p2), (3, .int p3), (4, .int p4), (5, .int v5), (6, .int v6), (7, .int p3)]) (pc' := 33) h dX5_unlikeSales_31 rfl (Nat.le_of_ble_eq_true rfl) [1, 2, 3, 4, 5, 6, 7, 0] rfl ?_
      refine k_iload (pc' := 35) h dX5_unlikeSales_33 rfl 7 rfl ?_
      refine k_aload_n (pc' := 36) h dX5_unlikeSales_35 rfl rfl 0 rfl ?_
      refine k_iload (pc' := 38) h dX5_unlikeSales_36 rfl 6 rfl ?_
      refine k_iconst (pc' := 39) h dX5_unlikeSales_38 rfl ci_1 ?_
      refine k_iadd (pc' := 40) h dX5_unlikeSales_39 rfl ?_
      have g5 := gd_1 hf
      replace hf := gd_2 hf
      refine k_iald (pc' := 41) h dX5_unlikeSales_40 rfl (aC_row hp0a hp0b) g5 ?_
      refine k_icmp_eq (tgt := 47) (pc' := 44) h dX5_unlikeSales_41 rfl rfl (fun c6 => ?_) (fun c6 => ?_)
      · replace hf := if_t c6 hf
        refine k_iinc (lv' := [(0, .ref (al (oC G) p0)), (1, .int p1), (2, .int p2), (3, .int p3), (4, .int p4), (5, .int v5), (6, .int (v6 + (2 : Int32))), (7, .int p3)]) (pc' := 50) h dX5_unlikeSales_47 rfl 6 rfl (congrArg (fun z => v6 + z) ci_2) (Nat.le_of_ble_eq_true rfl) [1, 2, 3, 4, 5, 6, 0, 7] rfl ?_
        refine k_goto (tgt := 6) h dX5_unlikeSales_50 rfl ?_
        refine k_sub (lv' := [(0, .ref (al (oC G) p0)), (1, .int p1), (2, .int p2), (3, .int p3), (4, .int p4), (5, .int v5), (6, .int (v6 + (2 : Int32)))]) [0, 1, 2, 3, 4, 5, 6] rfl ?_
        exact lp_o hf K
      · replace hf := if_f c6 hf
        refine k_iinc (lv' := [(0, .ref (al (oC G) p0)), (1, .int p1), (2, .int p2), (3, .int p3), (4, .int p4), (5, .int (v5 + (1 : Int32))), (6, .int v6), (7, .int p3)]) (pc' := 47) h dX5_unlikeSales_44 rfl 5 rfl (congrArg (fun z => v5 + z) ci_1) (Nat.le_of_ble_eq_true rfl) [1, 2, 3, 4, 5, 0, 6, 7] rfl ?_
        refine k_iinc (lv' := [(0, .ref (al (oC G) p0)), (1, .int p1), (2, .int p2), (3, .int p3), (4, .int p4), (5, .int (v5 + (1 : Int32))), (6, .int (v6 + (2 : Int32))), (7, .int p3)]) (pc' := 50) h dX5_unlikeSales_47 rfl 6 rfl (congrArg (fun z => v6 + z) ci_2) (Nat.le_of_ble_eq_true rfl) [1, 2, 3, 4, 5, 6, 0, 7] rfl ?_
        refine k_goto (tgt := 6) h dX5_unlikeSales_50 rfl ?_
        refine k_sub (lv' := [(0, .ref (al (oC G) p0)), (1, .int p1), (2, .int p2), (3, .int p3), (4, .int p4), (5, .int (v5 + (1 : Int32))), (6, .int (v6 + (2 : Int32)))]) [0, 1, 2, 3, 4, 5, 6] rfl ?_
        exact lp_o hf K
    · replace hf := if_f c4 hf
      refine k_iload (pc' := 27) h dX5_unlikeSales_25 rfl 4 rfl ?_
      refine k_goto (tgt := 31) h dX5_unlikeSales_27 rfl ?_
      refine k_istore (lv' := [(0, .ref (al (oC G) p0)), (1, .int p1), (2, .int p2), (3, .int p3), (4, .int p4), (5, .int v5), (6, .int v6), (7, .int p4)]) (pc' := 33) h dX5_unlikeSales_31 rfl (Nat.le_of_ble_eq_true rfl) [1, 2, 3, 4, 5, 6, 7, 0] rfl ?_
      refine k_iload (pc' := 35) h dX5_unlikeSales_33 rfl 7 rfl ?_
      refine k_aload_n (pc' := 36) h dX5_unlikeSales_35 rfl rfl 0 rfl ?_
      refine k_iload (pc' := 38) h dX5_unlikeSales_36 rfl 6 rfl ?_
      refine k_iconst (pc' := 39) h dX5_unlikeSales_38 rfl ci_1 ?_
      refine k_iadd (pc' := 40) h dX5_unlikeSales_39 rfl ?_
      have g7 := gd_1 hf
      replace hf := gd_2 hf
      refine k_iald (pc' := 41) h dX5_unlikeSales_40 rfl (aC_row hp0a hp0b) g7 ?_
      refine k_icmp_eq (tgt := 47) (pc' := 44) h dX5_unlikeSales_41 rfl rfl (fun c8 => ?_) (fun c8 => ?_)
      · replace hf := if_t c8 hf
        refine k_iinc (lv' := [(0, .ref (al (oC G) p0)), (1, .int p1), (2, .int p2), (3, .int p3), (4, .int p4), (5, .int v5), (6, .int (v6 + (2 : Int32))), (7, .int p4)]) (pc' := 50) h dX5_unlikeSales_47 rfl 6 rfl (congrArg (fun z => v6 + z) ci_2) (Nat.le_of_ble_eq_true rfl) [1, 2, 3, 4, 5, 6, 0, 7] rfl ?_
        refine k_goto (tgt := 6) h dX5_unlikeSales_50 rfl ?_
        refine k_sub (lv' := [(0, .ref (al (oC G) p0)), (1, .int p1), (2, .int p2), (3, .int p3), (4, .int p4), (5, .int v5), (6, .int (v6 + (2 : Int32)))]) [0, 1, 2, 3, 4, 5, 6] rfl ?_
        exact lp_o hf K
      · replace hf := if_f c8 hf
        refine k_iinc (lv' := [(0, .ref (al (oC G) p0)), (1, .int p1), (2, .int p2), (3, .int p3), (4, .int p4), (5, .int (v5 + (1 : Int32))), (6, .int v6), (7, .int p4)]) (pc' := 47) h dX5_unlikeSales_44 rfl 5 rfl (congrArg (fun z => v5 + z) ci_1) (Nat.le_of_ble_eq_true rfl) [1, 2, 3, 4, 5, 0, 6, 7] rfl ?_
        refine k_iinc (lv' := [(0, .ref (al (oC G) p0)), (1, .int p1), (2, .int p2), (3, .int p3), (4, .int p4), (5, .int (v5 + (1 : Int32))), (6, .int (v6 + (2 : Int32))), (7, .int p4)]) (pc' := 50) h dX5_unlikeSales_47 rfl 6 rfl (congrArg (fun z => v6 + z) ci_2) (Nat.le_of_ble_eq_true rfl) [1, 2, 3, 4, 5, 6, 0, 7] rfl ?_
        refine k_goto (tgt := 6) h dX5_unlikeSales_50 rfl ?_
        refine k_sub (lv' := [(0, .ref (al (oC G) p0)), (1, .int p1), (2, .int p2), (3, .int p3), (4, .int p4), (5, .int (v5 + (1 : Int32))), (6, .int (v6 + (2 : Int32)))]) [0, 1, 2, 3, 4, 5, 6] rfl ?_
        exact lp_o hf K
noncomputable def f_X5_unlikeSales (k0 : Nat) (x1 : Int32) (x2 : Int32) (x3 : Int32) (x4 : Int32) (st : St) : Option (Int32 × St) :=
  ((iter (fun v : Int32 × Int32 × St => l_X5_unlikeSales_6 k0 x1 x2 x3 x4 v.1 v.2.1 v.2.2) fuel ((0 : Int32), (0 : Int32), st)).bind (fun q9 => (some (q9.1, q9.2.2))))
set_option maxHeartbeats 4000000 in
theorem c_X5_unlikeSales {G : GG} (l : Launch) (k0 : Nat) (x1 : Int32) (x2 : Int32) (x3 : Int32) (x4 : Int32) (st : St) (hk0a : 2 ≤ k0) (hk0b : k0 < 8) (rr : Int32) (st' : St) (hf : f_X5_unlikeSales k0 x1 x2 x3 x4 st = some (rr, st')) : MM l yX5_unlikeSales cX5_unlikeSales 8 (some .int) 1 (oC G) [.ref (al (oC G) k0), .int x1, .int x2, .int x3, .int x4] st (some (.int rr)) st' := by
  refine mk_MM (by decide +kernel) (Nat.le_of_ble_eq_true rfl) (fun X h r => ?_)
  refine k_sub (lv' := [(0, .ref (al (oC G) k0)), (1, .int x1), (2, .int x2), (3, .int x3), (4, .int x4)]) [0, 1, 2, 3, 4] rfl ?_
  unfold f_X5_unlikeSales at hf
  refine k_iconst (pc' := 1) h dX5_unlikeSales_0 rfl ci_0 ?_
  refine k_istore (lv' := [(0, .ref (al (oC G) k0)), (1, .int x1), (2, .int x2), (3, .int x3), (4, .int x4), (5, .int (0 : Int32))]) (pc' := 3) h dX5_unlikeSales_1 rfl (Nat.le_of_ble_eq_true rfl) [1, 2, 3, 4, 5, 0] rfl ?_
  refine k_iconst (pc' := 4) h dX5_unlikeSales_3 rfl ci_0 ?_
  refine k_istore (lv' := [(0, .ref (al (oC G) k0)), (1, .int x1), (2, .int x2), (3, .int x3), (4, .int x4), (5, .int (0 : Int32)), (6, .int (0 : Int32))]) (pc' := 6) h dX5_unlikeSales_4 rfl (Nat.le_of_ble_eq_true rfl) [1, 2, 3, 4, 5, 6, 0] rfl ?_
  obtain ⟨q9, hq9, hf⟩ := bd_s hf
  refine w_X5_unlikeSales_6 h k0 x1 x2 x3 x4 hk0a hk0b fuel (0 : Int32) (0 : Int32) st q9 hq9 ?_
  refine k_iload (pc' := 55) h dX5_unlikeSales_53 rfl 5 rfl ?_
  exact k_iret h r dX5_unlikeSales_55 (lf_i hf)
noncomputable def f_X5_liesOf (x0 : Int32) (x1 : Int32) (st : St) : Option (Int32 × St) :=
  (gd (inb x0 6) (gd (inb x1 6) (gd (inb x1 6) ((f_X5_unlikeSales (2 + x1.toNatClampNeg) (st.1 8 x1.toNatClampNeg) (st.1 (17 + x0.toNatClampNeg) 0) (st.1 (17 + x0.toNatClampNeg) 3) (st.1 (17 + x0.toNatClampNeg) 4) st).bind (fun q4 => (some (q4.1, q4.2)))))))
set_option maxHeartbeats 4000000 in
theorem c_X5_liesOf {G : GG} (l : Launch) (x0 : Int32) (x1 : Int32) (st : St)  (rr : Int32) (st' : St) (hf : f_X5_liesOf x0 x1 st = some (rr, st')) : MM l yX5_liesOf cX5_liesOf 4 (some .int) 2 (oC G) [.ref (al (oC G) 0), .int x0, .int x1] st (some (.int rr)) st' := by
  refine mk_MM (by decide +kernel) (Nat.le_of_ble_eq_true rfl) (fun X h r => ?_)
  refine k_sub (lv' := [(0, .ref (al (oC G) 0)), (1, .int x0), (2, .int x1)]) [0, 1, 2] rfl ?_
  unfold f_X5_liesOf at hf
  refine k_aload_n (pc' := 1) h dX5_liesOf_0 rfl rfl 0 rfl ?_
  refine k_get (v := .ref (al (oC G) 15)) (pc' := 4) h dX5_liesOf_1 rfl bC_us fl_X5_29 rfl ?_
  refine k_get (v := .ref (al (oC G) 16)) (pc' := 7) h dX5_liesOf_4 rfl bC_sh fl_X5_116 rfl ?_
  refine k_iload_n (pc' := 8) h dX5_liesOf_7 rfl rfl 1 rfl ?_
  have g1 := gd_1 hf
  replace hf := gd_2 hf
  refine k_aald (tt := .object "TheUsual$Regular") (pc' := 9) h dX5_liesOf_8 rfl rC_regs rfl rfl g1 ?_
  refine k_astore_n (lv' := [(0, .ref (al (oC G) 0)), (1, .int x0), (2, .int x1), (3, .ref (al (oC G) (17 + x0.toNatClampNeg)))]) (pc' := 10) h dX5_liesOf_9 rfl rfl (Nat.le_of_ble_eq_true rfl) [1, 2, 3, 0] rfl ?_
  refine k_aload_n (pc' := 11) h dX5_liesOf_10 rfl rfl 0 rfl ?_
  refine k_get (v := .ref (al (oC G) 1)) (pc' := 14) h dX5_liesOf_11 rfl bC_us fl_X5_11 rfl ?_
  refine k_iload_n (pc' := 15) h dX5_liesOf_14 rfl rfl 2 rfl ?_
  have g2 := gd_1 hf
  replace hf := gd_2 hf
  refine k_aald (tt := .array .int) (pc' := 16) h dX5_liesOf_15 rfl rC_rows rfl rfl g2 ?_
  refine k_aload_n (pc' := 17) h dX5_liesOf_16 rfl rfl 0 rfl ?_
  refine k_get (v := .ref (al (oC G) 8)) (pc' := 20) h dX5_liesOf_17 rfl bC_us fl_X5_14 rfl ?_
  refine k_iload_n (pc' := 21) h dX5_liesOf_20 rfl rfl 2 rfl ?_
  have g3 := gd_1 hf
  replace hf := gd_2 hf
  refine k_iald (pc' := 22) h dX5_liesOf_21 rfl aC_rs g3 ?_
  refine k_aload_n (pc' := 23) h dX5_liesOf_22 rfl rfl 3 rfl ?_
  refine k_get (v := .int (st.1 (17 + x0.toNatClampNeg) 0)) (pc' := 26) h dX5_liesOf_23 rfl (bC_re (Nat.le_add_right 17 x0.toNatClampNeg) (Nat.add_lt_add_left (inb_lt g1) 17)) fl_X5_308 rfl ?_
  refine k_aload_n (pc' := 27) h dX5_liesOf_26 rfl rfl 3 rfl ?_
  refine k_get (v := .int (st.1 (17 + x0.toNatClampNeg) 3)) (pc' := 30) h dX5_liesOf_27 rfl (bC_re (Nat.le_add_right 17 x0.toNatClampNeg) (Nat.add_lt_add_left (inb_lt g1) 17)) fl_X5_311 rfl ?_
  refine k_aload_n (pc' := 31) h dX5_liesOf_30 rfl rfl 3 rfl ?_
  refine k_get (v := .int (st.1 (17 + x0.toNatClampNeg) 4)) (pc' := 34) h dX5_liesOf_31 rfl (bC_re (Nat.le_add_right 17 x0.toNatClampNeg) (Nat.add_lt_add_left (inb_lt g1) 17)) fl_X5_165 rfl ?_
  obtain ⟨q4, hq4, hf⟩ := bd_s hf
  refine k_callS (As := [.ref (al (oC G) (2 + x1.toNatClampNeg)), .int (st.1 8 x1.toNatClampNeg), .int (st.1 (17 + x0.toNatClampNeg) 0), .int (st.1 (17 + x0.toNatClampNeg) 3), .int (st.1 (17 + x0.toNatClampNeg) 4)]) (rest := []) (rv := some (.int q4.1)) (st' := q4.2) (stk' := [.int q4.1]) (pc' := 37) h dX5_liesOf_34 rfl ml_X5_258 wc_X5_unlikeSales ws_X5_unlikeSales ⟨Nat.le_of_ble_eq_true rfl, Nat.le_of_ble_eq_true rfl⟩ rfl rfl (Nat.le_of_ble_eq_true rfl) (fun l => c_X5_unlikeSales l (2 + x1.toNatClampNeg) (st.1 8 x1.toNatClampNeg) (st.1 (17 + x0.toNatClampNeg) 0) (st.1 (17 + x0.toNatClampNeg) 3) (st.1 (17 + x0.toNatClampNeg) 4) st (Nat.le_add_right 2 x1.toNatClampNeg) (Nat.add_lt_add_left (inb_lt g2) 2) _ _ hq4) rfl ?_
  exact k_iret h r dX5_liesOf_37 (lf_i hf)
noncomputable def l_X5_fits_17 (p1 : Int32) (p2 : Int32) (v3 : Int32) (v4 : Int32) (st : St) : Option ((Int32 × Int32 × St) ⊕ (Int32 × Int32 × St)) :=
  (if (st.1 15 2) ≤ v4 then (some (.inr (v3, v4, st))) else ((f_X5_liesOf v4 p1 st).bind (fun q4 => (if q4.1 = 0 then (lw (v3 ||| ((1 : Int32) <<< (v4 &&& 31))) (fun y6 => (some (.inl (y6, v4 + (1 : Int32), q4.2))))) else (some (.inl (v3, v4 + (1 : Int32), q4.2)))))))
set_option maxHeartbeats 4000000 in
theorem w_X5_fits_17 {G : GG} {X : Cx} (h : Ok X (oC G) cX5_fits RX5 5 (RM 3))  (p1 : Int32) (p2 : Int32)  (n : Nat) (v3 : Int32) (v4 : Int32) (st : St) (q : Int32 × Int32 × St) (hq : iter (fun v : Int32 × Int32 × St => l_X5_fits_17 p1 p2 v.1 v.2.1 v.2.2) n (v3, v4, st) = some q) (kx : Wk X (oC G) 5 q.2.2 52 [(0, .ref (al (oC G) 0)), (1, .int p1), (2, .int p2), (3, .int q.1), (4, .int q.2.1)] []) : Wk X (oC G) 5 st 17 [(0, .ref (al (oC G) 0)), (1, .int p1), (2, .int p2), (3, .int v3), (4, .int v4)] [] := by
  refine iter_rule (hd := (fun v : Int32 × Int32 × St => Wk X (oC G) 5 v.2.2 17 [(0, .ref (al (oC G) 0)), (1, .int p1), (2, .int p2), (3, .int v.1), (4, .int v.2.1)] [])) (ex := (fun v : Int32 × Int32 × St => Wk X (oC G) 5 v.2.2 52 [(0, .ref (al (oC G) 0)), (1, .int p1), (2, .int p2), (3, .int v.1), (4, .int v.2.1)] [])) ?_ n (v3, v4, st) q hq kx
  rintro ⟨v3, v4, st⟩ oo hbv K
  show Wk X (oC G) 5 st 17 [(0, .ref (al (oC G) 0)), (1, .int p1), (2, .int p2), (3, .int v3), (4, .int v4)] []
  have hf : l_X5_fits_17 p1 p2 v3 v4 st = some oo := hbv
  unfold l_X5_fits_17 at hf
  refine k_iload (pc' := 19) h dX5_fits_17 rfl 4 rfl ?_
  refine k_aload_n (pc' := 20) h dX5_fits_19 rfl rfl 0 rfl ?_
  refine k_get (v := .ref (al (oC G) 15)) (pc' := 23) h dX5_fits_20 rfl bC_us fl_X5_29 rfl ?_
  refine k_get (v := .int (st.1 15 2)) (pc' := 26) h dX5_fits_23 rfl bC_sh fl_X5_107 rfl ?_
  refine k_icmp_ge (tgt := 52) (pc' := 29) h dX5_fits_26 rfl rfl (fun c3 => ?_) (fun c3 => ?_)
  · replace hf := if_t c3 hf
    refine k_sub (lv' := [(0, .ref (al (oC G) 0)), (1, .int p1), (2, .int p2), (3, .int v3), (4, .int v4)]) [0, 1, 2, 3, 4] rfl ?_
    exact lp_o hf K
  · replace hf := if_f c3 hf
    refine k_aload_n (pc' := 30) h dX5_fits_29 rfl rfl 0 rfl ?_
    refine k_iload (pc' := 32) h dX5_fits_30 rfl 4 rfl ?_
    refine k_iload_n (pc' := 33) h dX5_fits_32 rfl rfl 1 rfl ?_
    obtain ⟨q4, hq4, hf⟩ := bd_s hf
    refine k_callV (As := [.int v4, .int p1]) (rest := []) (rv := some (.int q4.1)) (st' := q4.2) (stk' := [.int q4.1]) (pc' := 36) h dX5_fits_33 rfl ml_X5_255 wc_X5_liesOf wi_X5_liesOf ⟨Nat.le_of_ble_eq_true rfl, Nat.le_of_ble_eq_true rfl⟩ bC_us rfl rfl rfl rfl (Nat.le_of_ble_eq_true rfl) (fun l => c_X5_liesOf l v4 p1 st  _ _ hq4) rfl ?_
    refine k_if_ne (tgt := 46) (pc' := 39) h dX5_fits_36 rfl rfl (fun c5 => ?_) (fun c5 => ?_)
    · replace hf := if_f c5 hf
      refine k_iinc (lv' := [(0, .ref (al (oC G) 0)), (1, .int p1), (2, .int p2), (3, .int v3), (4, .int (v4 + (1 : Int32)))]) (pc' := 49) h dX5_fits_46 rfl 4 rfl (congrArg (fun z => v4 + z) ci_1) (Nat.le_of_ble_eq_true rfl) [1, 2, 3, 4, 0] rfl ?_
      refine k_goto (tgt := 17) h dX5_fits_49 rfl ?_
      refine k_sub (lv' := [(0, .ref (al (oC G) 0)), (1, .int p1), (2, .int p2), (3, .int v3), (4, .int (v4 + (1 : Int32)))]) [0, 1, 2, 3, 4] rfl ?_
      exact lp_o hf K
    · replace hf := if_t c5 hf
      refine k_iload_n (pc' := 40) h dX5_fits_39 rfl rfl 3 rfl ?_
      refine k_iconst (pc' := 41) h dX5_fits_40 rfl ci_1 ?_
      refine k_iload (pc' := 43) h dX5_fits_41 rfl 4 rfl ?_
      refine k_ishl (pc' := 44) h dX5_fits_43 rfl ?_
      refine k_ior (pc' := 45) h dX5_fits_44 rfl ?_
      obtain ⟨y6, hy6, hf⟩ := lw_s hf
      refine k_eqi hy6 ?_
      refine k_istore_n (lv' := [(0, .ref (al (oC G) 0)), (1, .int p1), (2, .int p2), (3, .int y6), (4, .int v4)]) (pc' := 46) h dX5_fits_45 rfl rfl (Nat.le_of_ble_eq_true rfl) [1, 2, 3, 0, 4] rfl ?_
      refine k_iinc (lv' := [(0, .ref (al (oC G) 0)), (1, .int p1), (2, .int p2), (3, .int y6), (4, .int (v4 + (1 : Int32)))]) (pc' := 49) h dX5_fits_46 rfl 4 rfl (congrArg (fun z => v4 + z) ci_1) (Nat.le_of_ble_eq_true rfl) [1, 2, 3, 4, 0] rfl ?_
      refine k_goto (tgt := 17) h dX5_fits_49 rfl ?_
      refine k_sub (lv' := [(0, .ref (al (oC G) 0)), (1, .int p1), (2, .int p2), (3, .int y6), (4, .int (v4 + (1 : Int32)))]) [0, 1, 2, 3, 4] rfl ?_
      exact lp_o hf K
noncomputable def f_X5_fits (x0 : Int32) (st : St) : Option (Int32 × St) :=
  ((f_X5_bookRefusal x0 st).bind (fun q1 => (if q1.1 = 0 then ((iter (fun v : Int32 × Int32 × St => l_X5_fits_17 x0 q1.1 v.1 v.2.1 v.2.2) fuel ((0 : Int32), (0 : Int32), q1.2)).bind (fun q7 => (some (q7.1, q7.2.2)))) else (some (q1.1, q1.2)))))
set_option maxHeartbeats 4000000 in
theorem c_X5_fits {G : GG} (l : Launch) (x0 : Int32) (st : St)  (rr : Int32) (st' : St) (hf : f_X5_fits x0 st = some (rr, st')) : MM l yX5_fits cX5_fits 5 (some .int) 3 (oC G) [.ref (al (oC G) 0), .int x0] st (some (.int rr)) st' := by
  refine mk_MM (by decide +kernel) (Nat.le_of_ble_eq_true rfl) (fun X h r => ?_)
  refine k_sub (lv' := [(0, .ref (al (oC G) 0)), (1, .int x0)]) [0, 1] rfl ?_
  unfold f_X5_fits at hf
  refine k_aload_n (pc' := 1) h dX5_fits_0 rfl rfl 0 rfl ?_
  refine k_iload_n (pc' := 2) h dX5_fits_1 rfl rfl 1 rfl ?_
  obtain ⟨q1, hq1, hf⟩ := bd_s hf
  refine k_callV (As := [.int x0]) (rest := []) (rv := some (.int q1.1)) (st' := q1.2) (stk' := [.int q1.1]) (pc' := 5) h dX5_fits_2 rfl ml_X5_252 wc_X5_bookRefusal wi_X5_bookRefusal ⟨Nat.le_of_ble_eq_true rfl, Nat.le_of_ble_eq_true rfl⟩ bC_us rfl rfl rfl rfl (Nat.le_of_ble_eq_true rfl) (fun l => c_X5_bookRefusal l x0 st  _ _ hq1) rfl ?_
  refine k_istore_n (lv' := [(0, .ref (al (oC G) 0)), (1, .int x0), (2, .int q1.1)]) (pc' := 6) h dX5_fits_5 rfl rfl (Nat.le_of_ble_eq_true rfl) [1, 2, 0] rfl ?_
  refine k_iload_n (pc' := 7) h dX5_fits_6 rfl rfl 2 rfl ?_
  refine k_if_eq (tgt := 12) (pc' := 10) h dX5_fits_7 rfl rfl (fun c2 => ?_) (fun c2 => ?_)
  · replace hf := if_t c2 hf
    refine k_iconst (pc' := 13) h dX5_fits_12 rfl ci_0 ?_
    refine k_istore_n (lv' := [(0, .ref (al (oC G) 0)), (1, .int x0), (2, .int q1.1), (3, .int (0 : Int32))]) (pc' := 14) h dX5_fits_13 rfl rfl (Nat.le_of_ble_eq_true rfl) [1, 2, 3, 0] rfl ?_
    refine k_iconst (pc' := 15) h dX5_fits_14 rfl ci_0 ?_
    refine k_istore (lv' := [(0, .ref (al (oC G) 0)), (1, .int x0), (2, .int q1.1), (3, .int (0 : Int32)), (4, .int (0 : Int32))]) (pc' := 17) h dX5_fits_15 rfl (Nat.le_of_ble_eq_true rfl) [1, 2, 3, 4, 0] rfl ?_
    obtain ⟨q7, hq7, hf⟩ := bd_s hf
    refine w_X5_fits_17 h x0 q1.1  fuel (0 : Int32) (0 : Int32) q1.2 q7 hq7 ?_
    refine k_iload_n (pc' := 53) h dX5_fits_52 rfl rfl 3 rfl ?_
    exact k_iret h r dX5_fits_53 (lf_i hf)
  · replace hf := if_f c2 hf
    refine k_iload_n (pc' := 11) h dX5_fits_10 rfl rfl 2 rfl ?_
    exact k_iret h r dX5_fits_11 (lf_i hf)
noncomputable def l_X5_kinds_37 (p1 : Int32) (p2 : Int32) (p3 : Int32) (p4 : Int32) (v5 : Int32) (v6 : Int32) (st : St) : Option ((Int32 × Int32 × St) ⊕ (Int32 × Int32 × St)) :=
  (if (6 : Int32) ≤ v6 then (some (.inr (v5, v6, st))) else (gd (inb p1 6) (gd (inb p1 6) ((f_X5_unlikeSales (2 + p1.toNatClampNeg) (st.1 8 p1.toNatClampNeg) v6 p2 p3 st).bind (fun q10 => (if q10.1 = 0 then (lw (v5 ||| ((1 : Int32) <<< (v6 &&& 31))) (fun y12 => (some (.inl (y12, v6 + (1 : Int32), q10.2))))) else (some (.inl (v5, v6 + (1 : Int32), q10.2)))))))))
set_option maxHeartbeats 4000000 in
theorem w_X5_kinds_37 {G : GG} {X : Cx} (h : Ok X (oC G) cX5_kinds RX5 7 (RM 3))  (p1 : Int32) (p2 : Int32) (p3 : Int32) (p4 : Int32)  (n : Nat) (v5 : Int32) (v6 : Int32) (st : St) (q : Int32 × Int32 × St) (hq : iter (fun v : Int32 × Int32 × St => l_X5_kinds_37 p1 p2 p3 p4 v.1 v.2.1 v.2.2) n (v5, v6, st) = some q) (kx : Wk X (oC G) 7 q.2.2 81 [(0, .ref (al (oC G) 0)), (1, .int p1), (2, .int p2), (3, .int p3), (4, .int p4), (5, .int q.1), (6, .int q.2.1)] []) : Wk X (oC G) 7 st 37 [(0, .ref (al (oC G) 0)), (1, .int p1), (2, .int p2), (3, .int p3), (4, .int p4), (5, .int v5), (6, .int v6)] [] := by
  refine iter_rule (hd := (fun v : Int32 × Int32 × St => Wk X (oC G) 7 v.2.2 37 [(0, .ref (al (oC G) 0)), (1, .int p1), (2, .int p2), (3, .int p3), (4, .int p4), (5, .int v.1), (6, .int v.2.1)] [])) (ex := (fun v : Int32 × Int32 × St => Wk X (oC G) 7 v.2.2 81 [(0, .ref (al (oC G) 0)), (1, .int p1), (2, .int p2), (3, .int p3), (4, .int p4), (5, .int v.1), (6, .int v.2.1)] [])) ?_ n (v5, v6, st) q hq kx
  rintro ⟨v5, v6, st⟩ oo hbv K
  show Wk X (oC G) 7 st 37 [(0, .ref (al (oC G) 0)), (1, .int p1), (2, .int p2), (3, .int p3), (4, .int p4), (5, .int v5), (6, .int v6)] []
  have hf : l_X5_kinds_37 p1 p2 p3 p4 v5 v6 st = some oo := hbv
  unfold l_X5_kinds_37 at hf
  refine k_iload (pc' := 39) h dX5_kinds_37 rfl 6 rfl ?_
  refine k_bipush (pc' := 41) h dX5_kinds_39 rfl cb_6 ?_
  refine k_icmp_ge (tgt := 81) (pc' := 44) h dX5_kinds_41 rfl rfl (fun c7 => ?_) (fun c7 => ?_)
  · replace hf := if_t c7 hf
    refine k_sub (lv' := [(0, .ref (al (oC G) 0)), (1, .int p1), (2, .int p2), (3, .int p3), (4, .int p4), (5, .int v5), (6, .int v6)]) [0, 1, 2, 3, 4, 5, 6] rfl ?_
    exact lp_o hf K
  · replace hf := if_f c7 hf
    refine k_aload_n (pc' := 45) h dX5_kinds_44 rfl rfl 0 rfl ?_
    refine k_get (v := .ref (al (oC G) 1)) (pc' := 48) h dX5_kinds_45 rfl bC_us fl_X5_11 rfl ?_
    refine k_iload_n (pc' := 49) h dX5_kinds_48 rfl rfl 1 rfl ?_
    have g8 := gd_1 hf
    replace hf := gd_2 hf
    refine k_aald (tt := .array .int) (pc' := 50) h dX5_kinds_49 rfl rC_rows rfl rfl g8 ?_
    refine k_aload_n (pc' := 51) h dX5_kinds_50 rfl rfl 0 rfl ?_
    refine k_get (v := .ref (al (oC G) 8)) (pc' := 54) h dX5_kinds_51 rfl bC_us fl_X5_14 rfl ?_
    refine k_iload_n (pc' := 55) h dX5_kinds_54 rfl rfl 1 rfl ?_
    have g9 := gd_1 hf
    replace hf := gd_2 hf
    refine k_iald (pc' := 56) h dX5_kinds_55 rfl aC_rs g9 ?_
    refine k_iload (pc' := 58) h dX5_kinds_56 rfl 6 rfl ?_
    refine k_iload_n (pc' := 59) h dX5_kinds_58 rfl rfl 2 rfl ?_
    refine k_iload_n (pc' := 60) h dX5_kinds_59 rfl rfl 3 rfl ?_
    obtain ⟨q10, hq10, hf⟩ := bd_s hf
    refine k_callS (As := [.ref (al (oC G) (2 + p1.toNatClampNeg)), .int (st.1 8 p1.toNatClampNeg), .int v6, .int p2, .int p3]) (rest := []) (rv := some (.int q10.1)) (st' := q10.2) (stk' := [.int q10.1]) (pc' := 63) h dX5_kinds_60 rfl ml_X5_258 wc_X5_unlikeSales ws_X5_unlikeSales ⟨Nat.le_of_ble_eq_true rfl, Nat.le_of_ble_eq_true rfl⟩ rfl rfl (Nat.le_of_ble_eq_true rfl) (fun l => c_X5_unlikeSales l (2 + p1.toNatClampNeg) (st.1 8 p1.toNatClampNeg) v6 p2 p3 st (Nat.le_add_right 2 p1.toNatClampNeg) (Nat.add_lt_add_left (inb_lt g8) 2) _ _ hq10) rfl ?_
    refine k_if_ne (tgt := 75) (pc' := 66) h dX5_kinds_63 rfl rfl (fun c11 => ?_) (fun c11 => ?_)
    · replace hf := if_f c11 hf
      refine k_iinc (lv' := [(0, .ref (al (oC G) 0)), (1, .int p1), (2, .int p2), (3, .int p3), (4, .int p4), (5, .int v5), (6, .int (v6 + (1 : Int32)))]) (pc' := 78) h dX5_kinds_75 rfl 6 rfl (congrArg (fun z => v6 + z) ci_1) (Nat.le_of_ble_eq_true rfl) [1, 2, 3, 4, 5, 6, 0] rfl ?_
      refine k_goto (tgt := 37) h dX5_kinds_78 rfl ?_
      refine k_sub (lv' := [(0, .ref (al (oC G) 0)), (1, .int p1), (2, .int p2), (3, .int p3), (4, .int p4), (5, .int v5), (6, .int (v6 + (1 : Int32)))]) [0, 1, 2, 3, 4, 5, 6] rfl ?_
      exact lp_o hf K
    · replace hf := if_t c11 hf
      refine k_iload (pc' := 68) h dX5_kinds_66 rfl 5 rfl ?_
      refine k_iconst (pc' := 69) h dX5_kinds_68 rfl ci_1 ?_
      refine k_iload (pc' := 71) h dX5_kinds_69 rfl 6 rfl ?_
      refine k_ishl (pc' := 72) h dX5_kinds_71 rfl ?_
      refine k_ior (pc' := 73) h dX5_kinds_72 rfl ?_
      obtain ⟨y12, hy12, hf⟩ := lw_s hf
      refine k_eqi hy12 ?_
      refine k_istore (lv' := [(0, .ref (al (oC G) 0)), (1, .int p1), (2, .int p2), (3, .int p3), (4, .int p4), (5, .int y12), (6, .int v6)]) (pc' := 75) h dX5_kinds_73 rfl (Nat.le_of_ble_eq_true rfl) [1, 2, 3, 4, 5, 0, 6] rfl ?_
      refine k_iinc (lv' := [(0, .ref (al (oC G) 0)), (1, .int p1), (2, .int p2), (3, .int p3), (4, .int p4), (5, .int y12), (6, .int (v6 + (1 : Int32)))]) (pc' := 78) h dX5_kinds_75 rfl 6 rfl (congrArg (fun z => v6 + z) ci_1) (Nat.le_of_ble_eq_true rfl) [1, 2, 3, 4, 5, 6, 0] rfl ?_
      refine k_goto (tgt := 37) h dX5_kinds_78 rfl ?_
      refine k_sub (lv' := [(0, .ref (al (oC G) 0)), (1, .int p1), (2, .int p2), (3, .int p3), (4, .int p4), (5, .int y12), (6, .int (v6 + (1 : Int32)))]) [0, 1, 2, 3, 4, 5, 6] rfl ?_
      exact lp_o hf K
noncomputable def f_X5_kinds (x0 : Int32) (x1 : Int32) (x2 : Int32) (st : St) : Option (Int32 × St) :=
  ((f_X5_isThing x1 st).bind (fun q1 => (if q1.1 = 0 then (some ((-1 : Int32), q1.2)) else ((f_X5_isThing x2 q1.2).bind (fun q3 => (if q3.1 = 0 then (some ((-1 : Int32), q3.2)) else ((f_X5_bookRefusal x0 q3.2).bind (fun q5 => (if q5.1 = 0 then ((iter (fun v : Int32 × Int32 × St => l_X5_kinds_37 x0 x1 x2 q5.1 v.1 v.2.1 v.2.2) fuel ((0 : Int32), (0 : Int32), q5.2)).bind (fun q13 => (some (q13.1, q13.2.2)))) else (some (q5.1, q5.2)))))))))))
set_option maxHeartbeats 4000000 in
theorem c_X5_kinds {G : GG} (l : Launch) (x0 : Int32) (x1 : Int32) (x2 : Int32) (st : St)  (rr : Int32) (st' : St) (hf : f_X5_kinds x0 x1 x2 st = some (rr, st')) : MM l yX5_kinds cX5_kinds 7 (some .int) 3 (oC G) [.ref (al (oC G) 0), .int x0, .int x1, .int x2] st (some (.int rr)) st' := by
  refine mk_MM (by decide +kernel) (Nat.le_of_ble_eq_true rfl) (fun X h r => ?_)
  refine k_sub (lv' := [(0, .ref (al (oC G) 0)), (1, .int x0), (2, .int x1), (3, .int x2)]) [0, 1, 2, 3] rfl ?_
  unfold f_X5_kinds at hf
  refine k_iload_n (pc' := 1) h dX5_kinds_0 rfl rfl 2 rfl ?_
  obtain ⟨q1, hq1, hf⟩ := bd_s hf
  refine k_callS (As := [.int x1]) (rest := []) (rv := some (.int q1.1)) (st' := q1.2) (stk' := [.int q1.1]) (pc' := 4) h dX5_kinds_1 rfl ml_X5_155 wc_X5_isThing ws_X5_isThing ⟨Nat.le_of_ble_eq_true rfl, Nat.le_of_ble_eq_true rfl⟩ rfl rfl (Nat.le_of_ble_eq_true rfl) (fun l => c_X5_isThing l x1 st  _ _ hq1) rfl ?_
  refine k_if_eq (tgt := 14) (pc' := 7) h dX5_kinds_4 rfl rfl (fun c2 => ?_) (fun c2 => ?_)
  · replace hf := if_t c2 hf
    refine k_iconst (pc' := 15) h dX5_kinds_14 rfl ci_m1 ?_
    exact k_iret h r dX5_kinds_15 (lf_i hf)
  · replace hf := if_f c2 hf
    refine k_iload_n (pc' := 8) h dX5_kinds_7 rfl rfl 3 rfl ?_
    obtain ⟨q3, hq3, hf⟩ := bd_s hf
    refine k_callS (As := [.int x2]) (rest := []) (rv := some (.int q3.1)) (st' := q3.2) (stk' := [.int q3.1]) (pc' := 11) h dX5_kinds_8 rfl ml_X5_155 wc_X5_isThing ws_X5_isThing ⟨Nat.le_of_ble_eq_true rfl, Nat.le_of_ble_eq_true rfl⟩ rfl rfl (Nat.le_of_ble_eq_true rfl) (fun l => c_X5_isThing l x2 q1.2  _ _ hq3) rfl ?_
    refine k_if_ne (tgt := 16) (pc' := 14) h dX5_kinds_11 rfl rfl (fun c4 => ?_) (fun c4 => ?_)
    · replace hf := if_f c4 hf
      refine k_aload_n (pc' := 17) h dX5_kinds_16 rfl rfl 0 rfl ?_
      refine k_iload_n (pc' := 18) h dX5_kinds_17 rfl rfl 1 rfl ?_
      obtain ⟨q5, hq5, hf⟩ := bd_s hf
      refine k_callV (As := [.int x0]) (rest := []) (rv := some (.int q5.1)) (st' := q5.2) (stk' := [.int q5.1]) (pc' := 21) h dX5_kinds_18 rfl ml_X5_252 wc_X5_bookRefusal wi_X5_bookRefusal ⟨Nat.le_of_ble_eq_true rfl, Nat.le_of_ble_eq_true rfl⟩ bC_us rfl rfl rfl rfl (Nat.le_of_ble_eq_true rfl) (fun l => c_X5_bookRefusal l x0 q3.2  _ _ hq5) rfl ?_
      refine k_istore (lv' := [(0, .ref (al (oC G) 0)), (1, .int x0), (2, .int x1), (3, .int x2), (4, .int q5.1)]) (pc' := 23) h dX5_kinds_21 rfl (Nat.le_of_ble_eq_true rfl) [1, 2, 3, 4, 0] rfl ?_
      refine k_iload (pc' := 25) h dX5_kinds_23 rfl 4 rfl ?_
      refine k_if_eq (tgt := 31) (pc' := 28) h dX5_kinds_25 rfl rfl (fun c6 => ?_) (fun c6 => ?_)
      · replace hf := if_t c6 hf
        refine k_iconst (pc' := 32) h dX5_kinds_31 rfl ci_0 ?_
        refine k_istore (lv' := [(0, .ref (al (oC G) 0)), (1, .int x0), (2, .int x1), (3, .int x2), (4, .int q5.1), (5, .int (0 : Int32))]) (pc' := 34) h dX5_kinds_32 rfl (Nat.le_of_ble_eq_true rfl) [1, 2, 3, 4, 5, 0] rfl ?_
        refine k_iconst (pc' := 35) h dX5_kinds_34 rfl ci_0 ?_
        refine k_istore (lv' := [(0, .ref (al (oC G) 0)), (1, .int x0), (2, .int x1), (3, .int x2), (4, .int q5.1), (5, .int (0 : Int32)), (6, .int (0 : Int32))]) (pc' := 37) h dX5_kinds_35 rfl (Nat.le_of_ble_eq_true rfl) [1, 2, 3, 4, 5, 6, 0] rfl ?_
        obtain ⟨q13, hq13, hf⟩ := bd_s hf
        refine w_X5_kinds_37 h x0 x1 x2 q5.1  fuel (0 : Int32) (0 : Int32) q5.2 q13 hq13 ?_
        refine k_iload (pc' := 83) h dX5_kinds_81 rfl 5 rfl ?_
        exact k_iret h r dX5_kinds_83 (lf_i hf)
      · replace hf := if_f c6 hf
        refine k_iload (pc' := 30) h dX5_kinds_28 rfl 4 rfl ?_
        exact k_iret h r dX5_kinds_30 (lf_i hf)
    · replace hf := if_t c4 hf
      refine k_iconst (pc' := 15) h dX5_kinds_14 rfl ci_m1 ?_
      exact k_iret h r dX5_kinds_15 (lf_i hf)
noncomputable def l_X5_lies_39 (p1 : Int32) (p2 : Int32) (v3 : Int32) (v4 : Int32) (st : St) : Option ((Int32 × Int32 × St) ⊕ (Int32 × Int32 × St)) :=
  (if (st.1 15 2) ≤ v4 then (some (.inr (v3, v4, st))) else ((f_X5_liesOf v4 p1 st).bind (fun q7 => ((f_X5_liesOf v3 p1 q7.2).bind (fun q8 => (if q8.1 ≤ q7.1 then (some (.inl (v3, v4 + (1 : Int32), q8.2))) else (some (.inl (v4, v4 + (1 : Int32), q8.2)))))))))
set_option maxHeartbeats 4000000 in
theorem w_X5_lies_39 {G : GG} {X : Cx} (h : Ok X (oC G) cX5_lies RX5 5 (RM 3))  (p1 : Int32) (p2 : Int32)  (n : Nat) (v3 : Int32) (v4 : Int32) (st : St) (q : Int32 × Int32 × St) (hq : iter (fun v : Int32 × Int32 × St => l_X5_lies_39 p1 p2 v.1 v.2.1 v.2.2) n (v3, v4, st) = some q) (kx : Wk X (oC G) 5 q.2.2 76 [(0, .ref (al (oC G) 0)), (1, .int p1), (2, .int p2), (3, .int q.1), (4, .int q.2.1)] []) : Wk X (oC G) 5 st 39 [(0, .ref (al (oC G) 0)), (1, .int p1), (2, .int p2), (3, .int v3), (4, .int v4)] [] := by
  refine iter_rule (hd := (fun v : Int32 × Int32 × St => Wk X (oC G) 5 v.2.2 39 [(0, .ref (al (oC G) 0)), (1, .int p1), (2, .int p2), (3, .int v.1), (4, .int v.2.1)] [])) (ex := (fun v : Int32 × Int32 × St => Wk X (oC G) 5 v.2.2 76 [(0, .ref (al (oC G) 0)), (1, .int p1), (2, .int p2), (3, .int v.1), (4, .int v.2.1)] [])) ?_ n (v3, v4, st) q hq kx
  rintro ⟨v3, v4, st⟩ oo hbv K
  show Wk X (oC G) 5 st 39 [(0, .ref (al (oC G) 0)), (1, .int p1), (2, .int p2), (3, .int v3), (4, .int v4)] []
  have hf : l_X5_lies_39 p1 p2 v3 v4 st = some oo := hbv
  unfold l_X5_lies_39 at hf
  refine k_iload (pc' := 41) h dX5_lies_39 rfl 4 rfl ?_
  refine k_aload_n (pc' := 42) h dX5_lies_41 rfl rfl 0 rfl ?_
  refine k_get (v := .ref (al (oC G) 15)) (pc' := 45) h dX5_lies_42 rfl bC_us fl_X5_29 rfl ?_
  refine k_get (v := .int (st.1 15 2)) (pc' := 48) h dX5_lies_45 rfl bC_sh fl_X5_107 rfl ?_
  refine k_icmp_ge (tgt := 76) (pc' := 51) h dX5_lies_48 rfl rfl (fun c6 => ?_) (fun c6 => ?_)
  · replace hf := if_t c6 hf
    refine k_sub (lv' := [(0, .ref (al (oC G) 0)), (1, .int p1), (2, .int p2), (3, .int v3), (4, .int v4)]) [0, 1, 2, 3, 4] rfl ?_
    exact lp_o hf K
  · replace hf := if_f c6 hf
    refine k_aload_n (pc' := 52) h dX5_lies_51 rfl rfl 0 rfl ?_
    refine k_iload (pc' := 54) h dX5_lies_52 rfl 4 rfl ?_
    refine k_iload_n (pc' := 55) h dX5_lies_54 rfl rfl 1 rfl ?_
    obtain ⟨q7, hq7, hf⟩ := bd_s hf
    refine k_callV (As := [.int v4, .int p1]) (rest := []) (rv := some (.int q7.1)) (st' := q7.2) (stk' := [.int q7.1]) (pc' := 58) h dX5_lies_55 rfl ml_X5_255 wc_X5_liesOf wi_X5_liesOf ⟨Nat.le_of_ble_eq_true rfl, Nat.le_of_ble_eq_true rfl⟩ bC_us rfl rfl rfl rfl (Nat.le_of_ble_eq_true rfl) (fun l => c_X5_liesOf l v4 p1 st  _ _ hq7) rfl ?_
    refine k_aload_n (pc' := 59) h dX5_lies_58 rfl rfl 0 rfl ?_
    refine k_iload_n (pc' := 60) h dX5_lies_59 rfl rfl 3 rfl ?_
    refine k_iload_n (pc' := 61) h dX5_lies_60 rfl rfl 1 rfl ?_
    obtain ⟨q8, hq8, hf⟩ := bd_s hf
    refine k_callV (As := [.int v3, .int p1]) (rest := [.int q7.1]) (rv := some (.int q8.1)) (st' := q8.2) (stk' := [.int q8.1, .int q7.1]) (pc' := 64) h dX5_lies_61 rfl ml_X5_255 wc_X5_liesOf wi_X5_liesOf ⟨Nat.le_of_ble_eq_true rfl, Nat.le_of_ble_eq_true rfl⟩ bC_us rfl rfl rfl rfl (Nat.le_of_ble_eq_true rfl) (fun l => c_X5_liesOf l v3 p1 q7.2  _ _ hq8) rfl ?_
    refine k_icmp_ge (tgt := 70) (pc' := 67) h dX5_lies_64 rfl rfl (fun c9 => ?_) (fun c9 => ?_)
    · replace hf := if_t c9 hf
      refine k_iinc (lv' := [(0, .ref (al (oC G) 0)), (1, .int p1), (2, .int p2), (3, .int v3), (4, .int (v4 + (1 : Int32)))]) (pc' := 73) h dX5_lies_70 rfl 4 rfl (congrArg (fun z => v4 + z) ci_1) (Nat.le_of_ble_eq_true rfl) [1, 2, 3, 4, 0] rfl ?_
      refine k_goto (tgt := 39) h dX5_lies_73 rfl ?_
      refine k_sub (lv' := [(0, .ref (al (oC G) 0)), (1, .int p1), (2, .int p2), (3, .int v3), (4, .int (v4 + (1 : Int32)))]) [0, 1, 2, 3, 4] rfl ?_
      exact lp_o hf K
    · replace hf := if_f c9 hf
      refine k_iload (pc' := 69) h dX5_lies_67 rfl 4 rfl ?_
      refine k_istore_n (lv' := [(0, .ref (al (oC G) 0)), (1, .int p1), (2, .int p2), (3, .int v4), (4, .int v4)]) (pc' := 70) h dX5_lies_69 rfl rfl (Nat.le_of_ble_eq_true rfl) [1, 2, 3, 0, 4] rfl ?_
      refine k_iinc (lv' := [(0, .ref (al (oC G) 0)), (1, .int p1), (2, .int p2), (3, .int v4), (4, .int (v4 + (1 : Int32)))]) (pc' := 73) h dX5_lies_70 rfl 4 rfl (congrArg (fun z => v4 + z) ci_1) (Nat.le_of_ble_eq_true rfl) [1, 2, 3, 4, 0] rfl ?_
      refine k_goto (tgt := 39) h dX5_lies_73 rfl ?_
      refine k_sub (lv' := [(0, .ref (al (oC G) 0)), (1, .int p1), (2, .int p2), (3, .int v4), (4, .int (v4 + (1 : Int32)))]) [0, 1, 2, 3, 4] rfl ?_
      exact lp_o hf K
noncomputable def f_X5_lies (x0 : Int32) (st : St) : Option (Int32 × St) :=
  ((f_X5_isRow x0 st).bind (fun q1 => (if q1.1 = 0 then (some ((-1 : Int32), q1.2)) else (if (q1.2.1 15 2) = 0 then (some ((-4 : Int32), q1.2)) else ((f_X5_bookRefusal x0 q1.2).bind (fun q4 => (if q4.1 = 0 then ((iter (fun v : Int32 × Int32 × St => l_X5_lies_39 x0 q4.1 v.1 v.2.1 v.2.2) fuel ((0 : Int32), (1 : Int32), q4.2)).bind (fun q10 => (ls (sA q10.2.2 0 (upd (q10.2.2.1 0) 9 q10.1)) (fun s11 => ((f_X5_liesOf q10.1 x0 s11).bind (fun q12 => (some (q12.1, q12.2)))))))) else (some (q4.1, q4.2)))))))))
set_option maxHeartbeats 4000000 in
theorem c_X5_lies {G : GG} (l : Launch) (x0 : Int32) (st : St)  (rr : Int32) (st' : St) (hf : f_X5_lies x0 st = some (rr, st')) : MM l yX5_lies cX5_lies 5 (some .int) 3 (oC G) [.ref (al (oC G) 0), .int x0] st (some (.int rr)) st' := by
  refine mk_MM (by decide +kernel) (Nat.le_of_ble_eq_true rfl) (fun X h r => ?_)
  refine k_sub (lv' := [(0, .ref (al (oC G) 0)), (1, .int x0)]) [0, 1] rfl ?_
  unfold f_X5_lies at hf
  refine k_iload_n (pc' := 1) h dX5_lies_0 rfl rfl 1 rfl ?_
  obtain ⟨q1, hq1, hf⟩ := bd_s hf
  refine k_callS (As := [.int x0]) (rest := []) (rv := some (.int q1.1)) (st' := q1.2) (stk' := [.int q1.1]) (pc' := 4) h dX5_lies_1 rfl ml_X5_64 wc_X5_isRow ws_X5_isRow ⟨Nat.le_of_ble_eq_true rfl, Nat.le_of_ble_eq_true rfl⟩ rfl rfl (Nat.le_of_ble_eq_true rfl) (fun l => c_X5_isRow l x0 st  _ _ hq1) rfl ?_
  refine k_if_ne (tgt := 9) (pc' := 7) h dX5_lies_4 rfl rfl (fun c2 => ?_) (fun c2 => ?_)
  · replace hf := if_f c2 hf
    refine k_aload_n (pc' := 10) h dX5_lies_9 rfl rfl 0 rfl ?_
    refine k_get (v := .ref (al (oC G) 15)) (pc' := 13) h dX5_lies_10 rfl bC_us fl_X5_29 rfl ?_
    refine k_get (v := .int (q1.2.1 15 2)) (pc' := 16) h dX5_lies_13 rfl bC_sh fl_X5_107 rfl ?_
    refine k_if_ne (tgt := 22) (pc' := 19) h dX5_lies_16 rfl rfl (fun c3 => ?_) (fun c3 => ?_)
    · replace hf := if_f c3 hf
      refine k_aload_n (pc' := 23) h dX5_lies_22 rfl rfl 0 rfl ?_
      refine k_iload_n (pc' := 24) h dX5_lies_23 rfl rfl 1 rfl ?_
      obtain ⟨q4, hq4, hf⟩ := bd_s hf
      refine k_callV (As := [.int x0]) (rest := []) (rv := some (.int q4.1)) (st' := q4.2) (stk' := [.int q4.1]) (pc' := 27) h dX5_lies_24 rfl ml_X5_252 wc_X5_bookRefusal wi_X5_bookRefusal ⟨Nat.le_of_ble_eq_true rfl, Nat.le_of_ble_eq_true rfl⟩ bC_us rfl rfl rfl rfl (Nat.le_of_ble_eq_true rfl) (fun l => c_X5_bookRefusal l x0 q1.2  _ _ hq4) rfl ?_
      refine k_istore_n (lv' := [(0, .ref (al (oC G) 0)), (1, .int x0), (2, .int q4.1)]) (pc' := 28) h dX5_lies_27 rfl rfl (Nat.le_of_ble_eq_true rfl) [1, 2, 0] rfl ?_
      refine k_iload_n (pc' := 29) h dX5_lies_28 rfl rfl 2 rfl ?_
      refine k_if_eq (tgt := 34) (pc' := 32) h dX5_lies_29 rfl rfl (fun c5 => ?_) (fun c5 => ?_)
      · replace hf := if_t c5 hf
        refine k_iconst (pc' := 35) h dX5_lies_34 rfl ci_0 ?_
        refine k_istore_n (lv' := [(0, .ref (al (oC G) 0)), (1, .int x0), (2, .int q4.1), (3, .int (0 : Int32))]) (pc' := 36) h dX5_lies_35 rfl rfl (Nat.le_of_ble_eq_true rfl) [1, 2, 3, 0] rfl ?_
        refine k_iconst (pc' := 37) h dX5_lies_36 rfl ci_1 ?_
        refine k_istore (lv' := [(0, .ref (al (oC G) 0)), (1, .int x0), (2, .int q4.1), (3, .int (0 : Int32)), (4, .int (1 : Int32))]) (pc' := 39) h dX5_lies_37 rfl (Nat.le_of_ble_eq_true rfl) [1, 2, 3, 4, 0] rfl ?_
        obtain ⟨q10, hq10, hf⟩ := bd_s hf
        refine w_X5_lies_39 h x0 q4.1  fuel (0 : Int32) (1 : Int32) q4.2 q10 hq10 ?_
        refine k_aload_n (pc' := 77) h dX5_lies_76 rfl rfl 0 rfl ?_
        refine k_iload_n (pc' := 78) h dX5_lies_77 rfl rfl 3 rfl ?_
        refine k_put (pc' := 81) h dX5_lies_78 rfl bC_us fp_X5_53 sf_us_9 sj_us_9 ?_
        obtain ⟨s11, hs11, hf⟩ := ls_s hf
        refine k_st hs11 ?_
        refine k_aload_n (pc' := 82) h dX5_lies_81 rfl rfl 0 rfl ?_
        refine k_iload_n (pc' := 83) h dX5_lies_82 rfl rfl 3 rfl ?_
        refine k_iload_n (pc' := 84) h dX5_lies_83 rfl rfl 1 rfl ?_
        obtain ⟨q12, hq12, hf⟩ := bd_s hf
        refine k_callV (As := [.int q10.1, .int x0]) (rest := []) (rv := some (.int q12.1)) (st' := q12.2) (stk' := [.int q12.1]) (pc' := 87) h dX5_lies_84 rfl ml_X5_255 wc_X5_liesOf wi_X5_liesOf ⟨Nat.le_of_ble_eq_true rfl, Nat.le_of_ble_eq_true rfl⟩ bC_us rfl rfl rfl rfl (Nat.le_of_ble_eq_true rfl) (fun l => c_X5_liesOf l q10.1 x0 s11  _ _ hq12) rfl ?_
        exact k_iret h r dX5_lies_87 (lf_i hf)
      · replace hf := if_f c5 hf
        refine k_iload_n (pc' := 33) h dX5_lies_32 rfl rfl 2 rfl ?_
        exact k_iret h r dX5_lies_33 (lf_i hf)
    · replace hf := if_t c3 hf
      refine k_bipush (pc' := 21) h dX5_lies_19 rfl cb_m4 ?_
      exact k_iret h r dX5_lies_21 (lf_i hf)
  · replace hf := if_t c2 hf
    refine k_iconst (pc' := 8) h dX5_lies_7 rfl ci_m1 ?_
    exact k_iret h r dX5_lies_8 (lf_i hf)
noncomputable def l_X5_apart_35 (p1 : Int32) (p2 : Int32) (p3 : Int32) (p4 : Int32) (v5 : Int32) (st : St) : Option ((Int32 × St) ⊕ ((Int32 × St) ⊕ (Int32 × St))) :=
  (if p4 < v5 then (some (.inr (.inr (v5, st)))) else (gd (inb p1 6) ((f_X2_wantOn (17 + p1.toNatClampNeg) v5 st).bind (fun q10 => (gd (inb p2 6) ((f_X2_wantOn (17 + p2.toNatClampNeg) v5 q10.2).bind (fun q12 => (if q10.1 = q12.1 then (some (.inl (v5 + (1 : Int32), q12.2))) else (some (.inr (.inl (v5, q12.2))))))))))))
set_option maxHeartbeats 4000000 in
theorem w_X5_apart_35 {G : GG} {X : Cx} (h : Ok X (oC G) cX5_apart RX5 6 (RM 2)) {P : Option Value → St → Prop} (r : Rt X (oC G) P (some .int)) (p1 : Int32) (p2 : Int32) (p3 : Int32) (p4 : Int32)  (n : Nat) (v5 : Int32) (st : St) (q : (Int32 × St) ⊕ (Int32 × St)) (hq : iter (fun v : Int32 × St => l_X5_apart_35 p1 p2 p3 p4 v.1 v.2) n (v5, st) = some q) (kr : ∀ rs, q = .inl rs → P (some (.int rs.1)) rs.2) (kx : ∀ v : Int32 × St, q = .inr v → Wk X (oC G) 6 v.2 82 [(0, .ref (al (oC G) 0)), (1, .int p1), (2, .int p2), (3, .int p3), (4, .int p4), (5, .int v.1)] []) : Wk X (oC G) 6 st 35 [(0, .ref (al (oC G) 0)), (1, .int p1), (2, .int p2), (3, .int p3), (4, .int p4), (5, .int v5)] [] := by
  refine iter_rule (hd := (fun v : Int32 × St => Wk X (oC G) 6 v.2 35 [(0, .ref (al (oC G) 0)), (1, .int p1), (2, .int p2), (3, .int p3), (4, .int p4), (5, .int v.1)] [])) (ex := (Sum.elim (fun rs : Int32 × St => P (some (.int rs.1)) rs.2) (fun v : Int32 × St => Wk X (oC G) 6 v.2 82 [(0, .ref (al (oC G) 0)), (1, .int p1), (2, .int p2), (3, .int p3), (4, .int p4), (5, .int v.1)] []))) ?_ n (v5, st) q hq (by cases q with
    | inl rs => exact kr rs rfl
    | inr v => exact kx v rfl)
  rintro ⟨v5, st⟩ oo hbv K
  show Wk X (oC G) 6 st 35 [(0, .ref (al (oC G) 0)), (1, .int p1), (2, .int p2), (3, .int p3), (4, .int p4), (5, .int v5)] []
  have hf : l_X5_apart_35 p1 p2 p3 p4 v5 st = some oo := hbv
  unfold l_X5_apart_35 at hf
  refine k_iload (pc' := 37) h dX5_apart_35 rfl 5 rfl ?_
  refine k_iload (pc' := 39) h dX5_apart_37 rfl 4 rfl ?_
  refine k_icmp_gt (tgt := 82) (pc' := 42) h dX5_apart_39 rfl rfl (fun c8 => ?_) (fun c8 => ?_)
  · replace hf := if_t c8 hf
    refine k_sub (lv' := [(0, .ref (al (oC G) 0)), (1, .int p1), (2, .int p2), (3, .int p3), (4, .int p4), (5, .int v5)]) [0, 1, 2, 3, 4, 5] rfl ?_
    exact lp_o hf K
  · replace hf := if_f c8 hf
    refine k_aload_n (pc' := 43) h dX5_apart_42 rfl rfl 0 rfl ?_
    refine k_get (v := .ref (al (oC G) 15)) (pc' := 46) h dX5_apart_43 rfl bC_us fl_X5_29 rfl ?_
    refine k_get (v := .ref (al (oC G) 16)) (pc' := 49) h dX5_apart_46 rfl bC_sh fl_X5_116 rfl ?_
    refine k_iload_n (pc' := 50) h dX5_apart_49 rfl rfl 1 rfl ?_
    have g9 := gd_1 hf
    replace hf := gd_2 hf
    refine k_aald (tt := .object "TheUsual$Regular") (pc' := 51) h dX5_apart_50 rfl rC_regs rfl rfl g9 ?_
    refine k_iload (pc' := 53) h dX5_apart_51 rfl 5 rfl ?_
    obtain ⟨q10, hq10, hf⟩ := bd_s hf
    refine k_callV (As := [.int v5]) (rest := []) (rv := some (.int q10.1)) (st' := q10.2) (stk' := [.int q10.1]) (pc' := 56) h dX5_apart_53 rfl ml_X5_207 wc_X2_wantOn wi_X2_wantOn ⟨Nat.le_of_ble_eq_true rfl, Nat.le_of_ble_eq_true rfl⟩ (bC_re (Nat.le_add_right 17 p1.toNatClampNeg) (Nat.add_lt_add_left (inb_lt g9) 17)) rfl rfl rfl rfl (Nat.le_of_ble_eq_true rfl) (fun l => c_X2_wantOn l (17 + p1.toNatClampNeg) v5 st (Nat.le_add_right 17 p1.toNatClampNeg) (Nat.add_lt_add_left (inb_lt g9) 17) _ _ hq10) rfl ?_
    refine k_aload_n (pc' := 57) h dX5_apart_56 rfl rfl 0 rfl ?_
    refine k_get (v := .ref (al (oC G) 15)) (pc' := 60) h dX5_apart_57 rfl bC_us fl_X5_29 rfl ?_
    refine k_get (v := .ref (al (oC G) 16)) (pc' := 63) h dX5_apart_60 rfl bC_sh fl_X5_116 rfl ?_
    refine k_iload_n (pc' := 64) h dX5_apart_63 rfl rfl 2 rfl ?_
    have g11 := gd_1 hf
    replace hf := gd_2 hf
    refine k_aald (tt := .object "TheUsual$Regular") (pc' := 65) h dX5_apart_64 rfl rC_regs rfl rfl g11 ?_
    refine k_iload (pc' := 67) h dX5_apart_65 rfl 5 rfl ?_
    obtain ⟨q12, hq12, hf⟩ := bd_s hf
    refine k_callV (As := [.int v5]) (rest := [.int q10.1]) (rv := some (.int q12.1)) (st' := q12.2) (stk' := [.int q12.1, .int q10.1]) (pc' := 70) h dX5_apart_67 rfl ml_X5_207 wc_X2_wantOn wi_X2_wantOn ⟨Nat.le_of_ble_eq_true rfl, Nat.le_of_ble_eq_true rfl⟩ (bC_re (Nat.le_add_right 17 p2.toNatClampNeg) (Nat.add_lt_add_left (inb_lt g11) 17)) rfl rfl rfl rfl (Nat.le_of_ble_eq_true rfl) (fun l => c_X2_wantOn l (17 + p2.toNatClampNeg) v5 q10.2 (Nat.le_add_right 17 p2.toNatClampNeg) (Nat.add_lt_add_left (inb_lt g11) 17) _ _ hq12) rfl ?_
    refine k_icmp_eq (tgt := 76) (pc' := 73) h dX5_apart_70 rfl rfl (fun c13 => ?_) (fun c13 => ?_)
    · replace hf := if_t c13 hf
      refine k_iinc (lv' := [(0, .ref (al (oC G) 0)), (1, .int p1), (2, .int p2), (3, .int p3), (4, .int p4), (5, .int (v5 + (1 : Int32)))]) (pc' := 79) h dX5_apart_76 rfl 5 rfl (congrArg (fun z => v5 + z) ci_1) (Nat.le_of_ble_eq_true rfl) [1, 2, 3, 4, 5, 0] rfl ?_
      refine k_goto (tgt := 35) h dX5_apart_79 rfl ?_
      refine k_sub (lv' := [(0, .ref (al (oC G) 0)), (1, .int p1), (2, .int p2), (3, .int p3), (4, .int p4), (5, .int (v5 + (1 : Int32)))]) [0, 1, 2, 3, 4, 5] rfl ?_
      exact lp_o hf K
    · replace hf := if_f c13 hf
      refine k_iload (pc' := 75) h dX5_apart_73 rfl 5 rfl ?_
      exact k_iret h r dX5_apart_75 (lp_o hf K)
noncomputable def f_X5_apart (x0 : Int32) (x1 : Int32) (x2 : Int32) (x3 : Int32) (st : St) : Option (Int32 × St) :=
  ((f_X5_areTwo x0 x1 st).bind (fun q1 => (if q1.1 = 0 then (some ((-1 : Int32), q1.2)) else ((f_X5_isMorning x2 q1.2).bind (fun q3 => (if q3.1 = 0 then (some ((-1 : Int32), q3.2)) else ((f_X5_isMorning x3 q3.2).bind (fun q5 => (if q5.1 = 0 then (some ((-1 : Int32), q5.2)) else (if x2 ≤ x3 then ((iter (fun v : Int32 × St => l_X5_apart_35 x0 x1 x2 x3 v.1 v.2) fuel (x2, q5.2)).bind (fun q14 => Sum.elim (fun rs16 => some rs16) (fun v15 => (some ((-9 : Int32), v15.2))) q14)) else (some ((-1 : Int32), q5.2))))))))))))
set_option maxHeartbeats 4000000 in
theorem c_X5_apart {G : GG} (l : Launch) (x0 : Int32) (x1 : Int32) (x2 : Int32) (x3 : Int32) (st : St)  (rr : Int32) (st' : St) (hf : f_X5_apart x0 x1 x2 x3 st = some (rr, st')) : MM l yX5_apart cX5_apart 6 (some .int) 2 (oC G) [.ref (al (oC G) 0), .int x0, .int x1, .int x2, .int x3] st (some (.int rr)) st' := by
  refine mk_MM (by decide +kernel) (Nat.le_of_ble_eq_true rfl) (fun X h r => ?_)
  refine k_sub (lv' := [(0, .ref (al (oC G) 0)), (1, .int x0), (2, .int x1), (3, .int x2), (4, .int x3)]) [0, 1, 2, 3, 4] rfl ?_
  unfold f_X5_apart at hf
  refine k_aload_n (pc' := 1) h dX5_apart_0 rfl rfl 0 rfl ?_
  refine k_iload_n (pc' := 2) h dX5_apart_1 rfl rfl 1 rfl ?_
  refine k_iload_n (pc' := 3) h dX5_apart_2 rfl rfl 2 rfl ?_
  obtain ⟨q1, hq1, hf⟩ := bd_s hf
  refine k_callV (As := [.int x0, .int x1]) (rest := []) (rv := some (.int q1.1)) (st' := q1.2) (stk' := [.int q1.1]) (pc' := 6) h dX5_apart_3 rfl ml_X5_200 wc_X5_areTwo wi_X5_areTwo ⟨Nat.le_of_ble_eq_true rfl, Nat.le_of_ble_eq_true rfl⟩ bC_us rfl rfl rfl rfl (Nat.le_of_ble_eq_true rfl) (fun l => c_X5_areTwo l x0 x1 st  _ _ hq1) rfl ?_
  refine k_if_eq (tgt := 30) (pc' := 9) h dX5_apart_6 rfl rfl (fun c2 => ?_) (fun c2 => ?_)
  · replace hf := if_t c2 hf
    refine k_iconst (pc' := 31) h dX5_apart_30 rfl ci_m1 ?_
    exact k_iret h r dX5_apart_31 (lf_i hf)
  · replace hf := if_f c2 hf
    refine k_iload_n (pc' := 10) h dX5_apart_9 rfl rfl 3 rfl ?_
    obtain ⟨q3, hq3, hf⟩ := bd_s hf
    refine k_callS (As := [.int x2]) (rest := []) (rv := some (.int q3.1)) (st' := q3.2) (stk' := [.int q3.1]) (pc' := 13) h dX5_apart_10 rfl ml_X5_204 wc_X5_isMorning ws_X5_isMorning ⟨Nat.le_of_ble_eq_true rfl, Nat.le_of_ble_eq_true rfl⟩ rfl rfl (Nat.le_of_ble_eq_true rfl) (fun l => c_X5_isMorning l x2 q1.2  _ _ hq3) rfl ?_
    refine k_if_eq (tgt := 30) (pc' := 16) h dX5_apart_13 rfl rfl (fun c4 => ?_) (fun c4 => ?_)
    · replace hf := if_t c4 hf
      refine k_iconst (pc' := 31) h dX5_apart_30 rfl ci_m1 ?_
      exact k_iret h r dX5_apart_31 (lf_i hf)
    · replace hf := if_f c4 hf
      refine k_iload (pc' := 18) h dX5_apart_16 rfl 4 rfl ?_
      obtain ⟨q5, hq5, hf⟩ := bd_s hf
      refine k_callS (As := [.int x3]) (rest := []) (rv := some (.int q5.1)) (st' := q5.2) (stk' := [.int q5.1]) (pc' := 21) h dX5_apart_18 rfl ml_X5_204 wc_X5_isMorning ws_X5_isMorning ⟨Nat.le_of_ble_eq_true rfl, Nat.le_of_ble_eq_true rfl⟩ rfl rfl (Nat.le_of_ble_eq_true rfl) (fun l => c_X5_isMorning l x3 q3.2  _ _ hq5) rfl ?_
      refine k_if_eq (tgt := 30) (pc' := 24) h dX5_apart_21 rfl rfl (fun c6 => ?_) (fun c6 => ?_)
      · replace hf := if_t c6 hf
        refine k_iconst (pc' := 31) h dX5_apart_30 rfl ci_m1 ?_
        exact k_iret h r dX5_apart_31 (lf_i hf)
      · replace hf := if_f c6 hf
        refine k_iload (pc' := 26) h dX5_apart_24 rfl 4 rfl ?_
        refine k_iload_n (pc' := 27) h dX5_apart_26 rfl rfl 3 rfl ?_
        refine k_icmp_ge (tgt := 32) (pc' := 30) h dX5_apart_27 rfl rfl (fun c7 => ?_) (fun c7 => ?_)
        · replace hf := if_t c7 hf
          refine k_iload_n (pc' := 33) h dX5_apart_32 rfl rfl 3 rfl ?_
          refine k_istore (lv' := [(0, .ref (al (oC G) 0)), (1, .int x0), (2, .int x1), (3, .int x2), (4, .int x3), (5, .int x2)]) (pc' := 35) h dX5_apart_33 rfl (Nat.le_of_ble_eq_true rfl) [1, 2, 3, 4, 5, 0] rfl ?_
          obtain ⟨q14, hq14, hf⟩ := bd_s hf
          refine w_X5_apart_35 h r x0 x1 x2 x3  fuel x2 q5.2 q14 hq14 (fun rs16 ers16 => ?_) (fun v15 ev15 => ?_)
          · subst ers16
            exact lf_i hf
          · subst ev15
            replace hf := sel_r hf
            refine k_bipush (pc' := 84) h dX5_apart_82 rfl cb_m9 ?_
            exact k_iret h r dX5_apart_84 (lf_i hf)
        · replace hf := if_f c7 hf
          refine k_iconst (pc' := 31) h dX5_apart_30 rfl ci_m1 ?_
          exact k_iret h r dX5_apart_31 (lf_i hf)
noncomputable def f_X5_sour (x0 : Int32) (st : St) : Option (Int32 × St) :=
  ((f_X5_isThing x0 st).bind (fun q1 => (if q1.1 = 0 then (some ((-1 : Int32), q1.2)) else ((f_X3_everybody  q1.2).bind (fun q3 => ((f_X3_souredBy q3.1 x0 q3.2).bind (fun q4 => (ls (sA q4.2 0 (upd (q4.2.1 0) 9 q4.1)) (fun s5 => ((f_J6_bitCount_0f7a4 (s5.1 0 9) s5).bind (fun q6 => (some (q6.1, q6.2)))))))))))))
set_option maxHeartbeats 4000000 in
theorem c_X5_sour {G : GG} (l : Launch) (x0 : Int32) (st : St)  (rr : Int32) (st' : St) (hf : f_X5_sour x0 st = some (rr, st')) : MM l yX5_sour cX5_sour 2 (some .int) 4 (oC G) [.ref (al (oC G) 0), .int x0] st (some (.int rr)) st' := by
  refine mk_MM (by decide +kernel) (Nat.le_of_ble_eq_true rfl) (fun X h r => ?_)
  refine k_sub (lv' := [(0, .ref (al (oC G) 0)), (1, .int x0)]) [0, 1] rfl ?_
  unfold f_X5_sour at hf
  refine k_iload_n (pc' := 1) h dX5_sour_0 rfl rfl 1 rfl ?_
  obtain ⟨q1, hq1, hf⟩ := bd_s hf
  refine k_callS (As := [.int x0]) (rest := []) (rv := some (.int q1.1)) (st' := q1.2) (stk' := [.int q1.1]) (pc' := 4) h dX5_sour_1 rfl ml_X5_155 wc_X5_isThing ws_X5_isThing ⟨Nat.le_of_ble_eq_true rfl, Nat.le_of_ble_eq_true rfl⟩ rfl rfl (Nat.le_of_ble_eq_true rfl) (fun l => c_X5_isThing l x0 st  _ _ hq1) rfl ?_
  refine k_if_ne (tgt := 9) (pc' := 7) h dX5_sour_4 rfl rfl (fun c2 => ?_) (fun c2 => ?_)
  · replace hf := if_f c2 hf
    refine k_aload_n (pc' := 10) h dX5_sour_9 rfl rfl 0 rfl ?_
    refine k_aload_n (pc' := 11) h dX5_sour_10 rfl rfl 0 rfl ?_
    refine k_get (v := .ref (al (oC G) 15)) (pc' := 14) h dX5_sour_11 rfl bC_us fl_X5_29 rfl ?_
    refine k_aload_n (pc' := 15) h dX5_sour_14 rfl rfl 0 rfl ?_
    refine k_get (v := .ref (al (oC G) 15)) (pc' := 18) h dX5_sour_15 rfl bC_us fl_X5_29 rfl ?_
    obtain ⟨q3, hq3, hf⟩ := bd_s hf
    refine k_callV (As := []) (rest := [.ref (al (oC G) 15), .ref (al (oC G) 0)]) (rv := some (.int q3.1)) (st' := q3.2) (stk' := [.int q3.1, .ref (al (oC G) 15), .ref (al (oC G) 0)]) (pc' := 21) h dX5_sour_18 rfl ml_X5_262 wc_X3_everybody wi_X3_everybody ⟨Nat.le_of_ble_eq_true rfl, Nat.le_of_ble_eq_true rfl⟩ bC_sh rfl rfl rfl rfl (Nat.le_of_ble_eq_true rfl) (fun l => c_X3_everybody l  q1.2  _ _ hq3) rfl ?_
    refine k_iload_n (pc' := 22) h dX5_sour_21 rfl rfl 1 rfl ?_
    obtain ⟨q4, hq4, hf⟩ := bd_s hf
    refine k_callV (As := [.int q3.1, .int x0]) (rest := [.ref (al (oC G) 0)]) (rv := some (.int q4.1)) (st' := q4.2) (stk' := [.int q4.1, .ref (al (oC G) 0)]) (pc' := 25) h dX5_sour_22 rfl ml_X5_226 wc_X3_souredBy wi_X3_souredBy ⟨Nat.le_of_ble_eq_true rfl, Nat.le_of_ble_eq_true rfl⟩ bC_sh rfl rfl rfl rfl (Nat.le_of_ble_eq_true rfl) (fun l => c_X3_souredBy l q3.1 x0 q3.2  _ _ hq4) rfl ?_
    refine k_put (pc' := 28) h dX5_sour_25 rfl bC_us fp_X5_53 sf_us_9 sj_us_9 ?_
    obtain ⟨s5, hs5, hf⟩ := ls_s hf
    refine k_st hs5 ?_
    refine k_aload_n (pc' := 29) h dX5_sour_28 rfl rfl 0 rfl ?_
    refine k_get (v := .int (s5.1 0 9)) (pc' := 32) h dX5_sour_29 rfl bC_us fl_X5_53 rfl ?_
    obtain ⟨q6, hq6, hf⟩ := bd_s hf
    refine k_callS (As := [.int (s5.1 0 9)]) (rest := []) (rv := some (.int q6.1)) (st' := q6.2) (stk' := [.int q6.1]) (pc' := 35) h dX5_sour_32 rfl ml_X5_147 wc_J6_bitCount_0f7a4 ws_J6_bitCount_0f7a4 ⟨Nat.le_of_ble_eq_true rfl, Nat.le_of_ble_eq_true rfl⟩ rfl rfl (Nat.le_of_ble_eq_true rfl) (fun l => c_J6_bitCount_0f7a4 l (s5.1 0 9) s5  _ _ hq6) rfl ?_
    exact k_iret h r dX5_sour_35 (lf_i hf)
  · replace hf := if_t c2 hf
    refine k_iconst (pc' := 8) h dX5_sour_7 rfl ci_m1 ?_
    exact k_iret h r dX5_sour_8 (lf_i hf)
noncomputable def l_X5_power_5 (p0 : Int64) (p2 : Int32) (v3 : Int64) (v5 : Int32) (st : St) : Option ((Int64 × Int32 × St) ⊕ (Int64 × Int32 × St)) :=
  (if p2 ≤ v5 then (some (.inr (v3, v5, st))) else (lw (v3 * p0) (fun y2 => (some (.inl (y2, v5 + (1 : Int32), st))))))
set_option maxHeartbeats 4000000 in
theorem w_X5_power_5 {G : GG} {X : Cx} (h : Ok X (oC G) cX5_power RX5 6 (RM 0))  (p0 : Int64) (p2 : Int32)  (n : Nat) (v3 : Int64) (v5 : Int32) (st : St) (q : Int64 × Int32 × St) (hq : iter (fun v : Int64 × Int32 × St => l_X5_power_5 p0 p2 v.1 v.2.1 v.2.2) n (v3, v5, st) = some q) (kx : Wk X (oC G) 6 q.2.2 21 [(0, .long p0), (2, .int p2), (3, .long q.1), (5, .int q.2.1)] []) : Wk X (oC G) 6 st 5 [(0, .long p0), (2, .int p2), (3, .long v3), (5, .int v5)] [] := by
  refine iter_rule (hd := (fun v : Int64 × Int32 × St => Wk X (oC G) 6 v.2.2 5 [(0, .long p0), (2, .int p2), (3, .long v.1), (5, .int v.2.1)] [])) (ex := (fun v : Int64 × Int32 × St => Wk X (oC G) 6 v.2.2 21 [(0, .long p0), (2, .int p2), (3, .long v.1), (5, .int v.2.1)] [])) ?_ n (v3, v5, st) q hq kx
  rintro ⟨v3, v5, st⟩ oo hbv K
  show Wk X (oC G) 6 st 5 [(0, .long p0), (2, .int p2), (3, .long v3), (5, .int v5)] []
  have hf : l_X5_power_5 p0 p2 v3 v5 st = some oo := hbv
  unfold l_X5_power_5 at hf
  refine k_iload (pc' := 7) h dX5_power_5 rfl 3 rfl ?_
  refine k_iload_n (pc' := 8) h dX5_power_7 rfl rfl 1 rfl ?_
  refine k_icmp_ge (tgt := 21) (pc' := 11) h dX5_power_8 rfl rfl (fun c1 => ?_) (fun c1 => ?_)
  · replace hf := if_t c1 hf
    refine k_sub (lv' := [(0, .long p0), (2, .int p2), (3, .long v3), (5, .int v5)]) [0, 1, 2, 3] rfl ?_
    exact lp_o hf K
  · replace hf := if_f c1 hf
    refine k_lload_n (pc' := 12) h dX5_power_11 rfl rfl 2 rfl ?_
    refine k_lload_n (pc' := 13) h dX5_power_12 rfl rfl 0 rfl ?_
    refine k_lmul (pc' := 14) h dX5_power_13 rfl ?_
    obtain ⟨y2, hy2, hf⟩ := lw_s hf
    refine k_eql hy2 ?_
    refine k_lstore_n (lv' := [(0, .long p0), (2, .int p2), (3, .long y2), (5, .int v5)]) (pc' := 15) h dX5_power_14 rfl rfl (Nat.le_of_ble_eq_true rfl) [1, 2, 0, 3] rfl ?_
    refine k_iinc (lv' := [(0, .long p0), (2, .int p2), (3, .long y2), (5, .int (v5 + (1 : Int32)))]) (pc' := 18) h dX5_power_15 rfl 3 rfl (congrArg (fun z => v5 + z) ci_1) (Nat.le_of_ble_eq_true rfl) [1, 2, 3, 0] rfl ?_
    refine k_goto (tgt := 5) h dX5_power_18 rfl ?_
    refine k_sub (lv' := [(0, .long p0), (2, .int p2), (3, .long y2), (5, .int (v5 + (1 : Int32)))]) [0, 1, 2, 3] rfl ?_
    exact lp_o hf K
noncomputable def f_X5_power (x0 : Int64) (x1 : Int32) (st : St) : Option (Int64 × St) :=
  ((iter (fun v : Int64 × Int32 × St => l_X5_power_5 x0 x1 v.1 v.2.1 v.2.2) fuel ((1 : Int64), (0 : Int32), st)).bind (fun q3 => (some (q3.1, q3.2.2))))
set_option maxHeartbeats 4000000 in
theorem c_X5_power {G : GG} (l : Launch) (x0 : Int64) (x1 : Int32) (st : St)  (rr : Int64) (st' : St) (hf : f_X5_power x0 x1 st = some (rr, st')) : MM l yX5_power cX5_power 6 (some .long) 0 (oC G) [.long x0, .int x1] st (some (.long rr)) st' := by
  refine mk_MM (by decide +kernel) (Nat.le_of_ble_eq_true rfl) (fun X h r => ?_)
  refine k_sub (lv' := [(0, .long x0), (2, .int x1)]) [0, 1] rfl ?_
  unfold f_X5_power at hf
  refine k_lconst (pc' := 1) h dX5_power_0 rfl cl_1 ?_
  refine k_lstore_n (lv' := [(0, .long x0), (2, .int x1), (3, .long (1 : Int64))]) (pc' := 2) h dX5_power_1 rfl rfl (Nat.le_of_ble_eq_true rfl) [1, 2, 0] rfl ?_
  refine k_iconst (pc' := 3) h dX5_power_2 rfl ci_0 ?_
  refine k_istore (lv' := [(0, .long x0), (2, .int x1), (3, .long (1 : Int64)), (5, .int (0 : Int32))]) (pc' := 5) h dX5_power_3 rfl (Nat.le_of_ble_eq_true rfl) [1, 2, 3, 0] rfl ?_
  obtain ⟨q3, hq3, hf⟩ := bd_s hf
  refine w_X5_power_5 h x0 x1  fuel (1 : Int64) (0 : Int32) st q3 hq3 ?_
  refine k_lload_n (pc' := 22) h dX5_power_21 rfl rfl 2 rfl ?_
  exact k_lret h r dX5_power_22 (lf_l hf)
noncomputable def l_X5_odds_38 (p1 : Int32) (p2 : Int32) (v3 : Int64) (v5 : Int32) (st : St) : Option ((Int64 × Int32 × St) ⊕ (Int64 × Int32 × St)) :=
  (if (6 : Int32) ≤ v5 then (some (.inr (v3, v5, st))) else ((f_X3_comingsThatWant p2 v5 st).bind (fun q6 => ((f_X5_power q6.1.toInt64 p1 q6.2).bind (fun q7 => (lw (v3 + q7.1) (fun y8 => (some (.inl (y8, v5 + (1 : Int32), q7.2))))))))))
set_option maxHeartbeats 4000000 in
theorem w_X5_odds_38 {G : GG} {X : Cx} (h : Ok X (oC G) cX5_odds RX5 6 (RM 3))  (p1 : Int32) (p2 : Int32)  (n : Nat) (v3 : Int64) (v5 : Int32) (st : St) (q : Int64 × Int32 × St) (hq : iter (fun v : Int64 × Int32 × St => l_X5_odds_38 p1 p2 v.1 v.2.1 v.2.2) n (v3, v5, st) = some q) (kx : Wk X (oC G) 6 q.2.2 69 [(0, .ref (al (oC G) 0)), (1, .int p1), (2, .int p2), (3, .long q.1), (5, .int q.2.1)] []) : Wk X (oC G) 6 st 38 [(0, .ref (al (oC G) 0)), (1, .int p1), (2, .int p2), (3, .long v3), (5, .int v5)] [] := by
  refine iter_rule (hd := (fun v : Int64 × Int32 × St => Wk X (oC G) 6 v.2.2 38 [(0, .ref (al (oC G) 0)), (1, .int p1), (2, .int p2), (3, .long v.1), (5, .int v.2.1)] [])) (ex := (fun v : Int64 × Int32 × St => Wk X (oC G) 6 v.2.2 69 [(0, .ref (al (oC G) 0)), (1, .int p1), (2, .int p2), (3, .long v.1), (5, .int v.2.1)] [])) ?_ n (v3, v5, st) q hq kx
  rintro ⟨v3, v5, st⟩ oo hbv K
  show Wk X (oC G) 6 st 38 [(0, .ref (al (oC G) 0)), (1, .int p1), (2, .int p2), (3, .long v3), (5, .int v5)] []
  have hf : l_X5_odds_38 p1 p2 v3 v5 st = some oo := hbv
  unfold l_X5_odds_38 at hf
  refine k_iload (pc' := 40) h dX5_odds_38 rfl 4 rfl ?_
  refine k_bipush (pc' := 42) h dX5_odds_40 rfl cb_6 ?_
  refine k_icmp_ge (tgt := 69) (pc' := 45) h dX5_odds_42 rfl rfl (fun c5 => ?_) (fun c5 => ?_)
  · replace hf := if_t c5 hf
    refine k_sub (lv' := [(0, .ref (al (oC G) 0)), (1, .int p1), (2, .int p2), (3, .long v3), (5, .int v5)]) [0, 1, 2, 3, 4] rfl ?_
    exact lp_o hf K
  · replace hf := if_f c5 hf
    refine k_lload_n (pc' := 46) h dX5_odds_45 rfl rfl 3 rfl ?_
    refine k_aload_n (pc' := 47) h dX5_odds_46 rfl rfl 0 rfl ?_
    refine k_get (v := .ref (al (oC G) 15)) (pc' := 50) h dX5_odds_47 rfl bC_us fl_X5_29 rfl ?_
    refine k_iload_n (pc' := 51) h dX5_odds_50 rfl rfl 2 rfl ?_
    refine k_iload (pc' := 53) h dX5_odds_51 rfl 4 rfl ?_
    obtain ⟨q6, hq6, hf⟩ := bd_s hf
    refine k_callV (As := [.int p2, .int v5]) (rest := [.long v3]) (rv := some (.int q6.1)) (st' := q6.2) (stk' := [.int q6.1, .long v3]) (pc' := 56) h dX5_odds_53 rfl ml_X5_210 wc_X3_comingsThatWant wi_X3_comingsThatWant ⟨Nat.le_of_ble_eq_true rfl, Nat.le_of_ble_eq_true rfl⟩ bC_sh rfl rfl rfl rfl (Nat.le_of_ble_eq_true rfl) (fun l => c_X3_comingsThatWant l p2 v5 st  _ _ hq6) rfl ?_
    refine k_i2l (pc' := 57) h dX5_odds_56 rfl ?_
    refine k_iload_n (pc' := 58) h dX5_odds_57 rfl rfl 1 rfl ?_
    obtain ⟨q7, hq7, hf⟩ := bd_s hf
    refine k_callS (As := [.long q6.1.toInt64, .int p1]) (rest := [.long v3]) (rv := some (.long q7.1)) (st' := q7.2) (stk' := [.long q7.1, .long v3]) (pc' := 61) h dX5_odds_58 rfl ml_X5_265 wc_X5_power ws_X5_power ⟨Nat.le_of_ble_eq_true rfl, Nat.le_of_ble_eq_true rfl⟩ rfl rfl (Nat.le_of_ble_eq_true rfl) (fun l => c_X5_power l q6.1.toInt64 p1 q6.2  _ _ hq7) rfl ?_
    refine k_ladd (pc' := 62) h dX5_odds_61 rfl ?_
    obtain ⟨y8, hy8, hf⟩ := lw_s hf
    refine k_eql hy8 ?_
    refine k_lstore_n (lv' := [(0, .ref (al (oC G) 0)), (1, .int p1), (2, .int p2), (3, .long y8), (5, .int v5)]) (pc' := 63) h dX5_odds_62 rfl rfl (Nat.le_of_ble_eq_true rfl) [1, 2, 3, 0, 4] rfl ?_
    refine k_iinc (lv' := [(0, .ref (al (oC G) 0)), (1, .int p1), (2, .int p2), (3, .long y8), (5, .int (v5 + (1 : Int32)))]) (pc' := 66) h dX5_odds_63 rfl 4 rfl (congrArg (fun z => v5 + z) ci_1) (Nat.le_of_ble_eq_true rfl) [1, 2, 3, 4, 0] rfl ?_
    refine k_goto (tgt := 38) h dX5_odds_66 rfl ?_
    refine k_sub (lv' := [(0, .ref (al (oC G) 0)), (1, .int p1), (2, .int p2), (3, .long y8), (5, .int (v5 + (1 : Int32)))]) [0, 1, 2, 3, 4] rfl ?_
    exact lp_o hf K
noncomputable def f_X5_odds (x0 : Int32) (st : St) : Option (Int32 × St) :=
  (if x0 < (1 : Int32) then (some ((-1 : Int32), st)) else (if x0 ≤ (3 : Int32) then (if (st.1 15 2) = 0 then (some ((-4 : Int32), st)) else ((f_X3_everybody  st).bind (fun q4 => ((iter (fun v : Int64 × Int32 × St => l_X5_odds_38 x0 q4.1 v.1 v.2.1 v.2.2) fuel ((0 : Int64), (0 : Int32), q4.2)).bind (fun q9 => ((f_X3_comingsOf q4.1 q9.2.2).bind (fun q10 => ((f_X5_power q10.1.toInt64 x0 q10.2).bind (fun q11 => ((f_X5_tell q9.1 q11.1 q11.2).bind (fun q12 => (some ((1 : Int32), q12))))))))))))) else (some ((-1 : Int32), st))))
set_option maxHeartbeats 4000000 in
theorem c_X5_odds {G : GG} (l : Launch) (x0 : Int32) (st : St)  (rr : Int32) (st' : St) (hf : f_X5_odds x0 st = some (rr, st')) : MM l yX5_odds cX5_odds 6 (some .int) 3 (oC G) [.ref (al (oC G) 0), .int x0] st (some (.int rr)) st' := by
  refine mk_MM (by decide +kernel) (Nat.le_of_ble_eq_true rfl) (fun X h r => ?_)
  refine k_sub (lv' := [(0, .ref (al (oC G) 0)), (1, .int x0)]) [0, 1] rfl ?_
  unfold f_X5_odds at hf
  refine k_iload_n (pc' := 1) h dX5_odds_0 rfl rfl 1 rfl ?_
  refine k_iconst (pc' := 2) h dX5_odds_1 rfl ci_1 ?_
  refine k_icmp_lt (tgt := 10) (pc' := 5) h dX5_odds_2 rfl rfl (fun c1 => ?_) (fun c1 => ?_)
  · replace hf := if_t c1 hf
    refine k_iconst (pc' := 11) h dX5_odds_10 rfl ci_m1 ?_
    exact k_iret h r dX5_odds_11 (lf_i hf)
  · replace hf := if_f c1 hf
    refine k_iload_n (pc' := 6) h dX5_odds_5 rfl rfl 1 rfl ?_
    refine k_iconst (pc' := 7) h dX5_odds_6 rfl ci_3 ?_
    refine k_icmp_le (tgt := 12) (pc' := 10) h dX5_odds_7 rfl rfl (fun c2 => ?_) (fun c2 => ?_)
    · replace hf := if_t c2 hf
      refine k_aload_n (pc' := 13) h dX5_odds_12 rfl rfl 0 rfl ?_
      refine k_get (v := .ref (al (oC G) 15)) (pc' := 16) h dX5_odds_13 rfl bC_us fl_X5_29 rfl ?_
      refine k_get (v := .int (st.1 15 2)) (pc' := 19) h dX5_odds_16 rfl bC_sh fl_X5_107 rfl ?_
      refine k_if_ne (tgt := 25) (pc' := 22) h dX5_odds_19 rfl rfl (fun c3 => ?_) (fun c3 => ?_)
      · replace hf := if_f c3 hf
        refine k_aload_n (pc' := 26) h dX5_odds_25 rfl rfl 0 rfl ?_
        refine k_get (v := .ref (al (oC G) 15)) (pc' := 29) h dX5_odds_26 rfl bC_us fl_X5_29 rfl ?_
        obtain ⟨q4, hq4, hf⟩ := bd_s hf
        refine k_callV (As := []) (rest := []) (rv := some (.int q4.1)) (st' := q4.2) (stk' := [.int q4.1]) (pc' := 32) h dX5_odds_29 rfl ml_X5_262 wc_X3_everybody wi_X3_everybody ⟨Nat.le_of_ble_eq_true rfl, Nat.le_of_ble_eq_true rfl⟩ bC_sh rfl rfl rfl rfl (Nat.le_of_ble_eq_true rfl) (fun l => c_X3_everybody l  st  _ _ hq4) rfl ?_
        refine k_istore_n (lv' := [(0, .ref (al (oC G) 0)), (1, .int x0), (2, .int q4.1)]) (pc' := 33) h dX5_odds_32 rfl rfl (Nat.le_of_ble_eq_true rfl) [1, 2, 0] rfl ?_
        refine k_lconst (pc' := 34) h dX5_odds_33 rfl cl_0 ?_
        refine k_lstore_n (lv' := [(0, .ref (al (oC G) 0)), (1, .int x0), (2, .int q4.1), (3, .long (0 : Int64))]) (pc' := 35) h dX5_odds_34 rfl rfl (Nat.le_of_ble_eq_true rfl) [1, 2, 3, 0] rfl ?_
        refine k_iconst (pc' := 36) h dX5_odds_35 rfl ci_0 ?_
        refine k_istore (lv' := [(0, .ref (al (oC G) 0)), (1, .int x0), (2, .int q4.1), (3, .long (0 : Int64)), (5, .int (0 : Int32))]) (pc' := 38) h dX5_odds_36 rfl (Nat.le_of_ble_eq_true rfl) [1, 2, 3, 4, 0] rfl ?_
        obtain ⟨q9, hq9, hf⟩ := bd_s hf
        refine w_X5_odds_38 h x0 q4.1  fuel (0 : Int64) (0 : Int32) q4.2 q9 hq9 ?_
        refine k_aload_n (pc' := 70) h dX5_odds_69 rfl rfl 0 rfl ?_
        refine k_lload_n (pc' := 71) h dX5_odds_70 rfl rfl 3 rfl ?_
        refine k_aload_n (pc' := 72) h dX5_odds_71 rfl rfl 0 rfl ?_
        refine k_get (v := .ref (al (oC G) 15)) (pc' := 75) h dX5_odds_72 rfl bC_us fl_X5_29 rfl ?_
        refine k_iload_n (pc' := 76) h dX5_odds_75 rfl rfl 2 rfl ?_
        obtain ⟨q10, hq10, hf⟩ := bd_s hf
        refine k_callV (As := [.int q4.1]) (rest := [.long q9.1, .ref (al (oC G) 0)]) (rv := some (.int q10.1)) (st' := q10.2) (stk' := [.int q10.1, .long q9.1, .ref (al (oC G) 0)]) (pc' := 79) h dX5_odds_76 rfl ml_X5_213 wc_X3_comingsOf wi_X3_comingsOf ⟨Nat.le_of_ble_eq_true rfl, Nat.le_of_ble_eq_true rfl⟩ bC_sh rfl rfl rfl rfl (Nat.le_of_ble_eq_true rfl) (fun l => c_X3_comingsOf l q4.1 q9.2.2  _ _ hq10) rfl ?_
        refine k_i2l (pc' := 80) h dX5_odds_79 rfl ?_
        refine k_iload_n (pc' := 81) h dX5_odds_80 rfl rfl 1 rfl ?_
        obtain ⟨q11, hq11, hf⟩ := bd_s hf
        refine k_callS (As := [.long q10.1.toInt64, .int x0]) (rest := [.long q9.1, .ref (al (oC G) 0)]) (rv := some (.long q11.1)) (st' := q11.2) (stk' := [.long q11.1, .long q9.1, .ref (al (oC G) 0)]) (pc' := 84) h dX5_odds_81 rfl ml_X5_265 wc_X5_power ws_X5_power ⟨Nat.le_of_ble_eq_true rfl, Nat.le_of_ble_eq_true rfl⟩ rfl rfl (Nat.le_of_ble_eq_true rfl) (fun l => c_X5_power l q10.1.toInt64 x0 q10.2  _ _ hq11) rfl ?_
        obtain ⟨q12, hq12, hf⟩ := bd_s hf
        refine k_callV (As := [.long q9.1, .long q11.1]) (rest := []) (rv := none) (st' := q12) (stk' := []) (pc' := 87) h dX5_odds_84 rfl ml_X5_216 wc_X5_tell wi_X5_tell ⟨Nat.le_of_ble_eq_true rfl, Nat.le_of_ble_eq_true rfl⟩ bC_us rfl rfl rfl rfl (Nat.le_of_ble_eq_true rfl) (fun l => c_X5_tell l q9.1 q11.1 q11.2  _ hq12) rfl ?_
        refine k_iconst (pc' := 88) h dX5_odds_87 rfl ci_1 ?_
        exact k_iret h r dX5_odds_88 (lf_i hf)
      · replace hf := if_t c3 hf
        refine k_bipush (pc' := 24) h dX5_odds_22 rfl cb_m4 ?_
        exact k_iret h r dX5_odds_24 (lf_i hf)
    · replace hf := if_f c2 hf
      refine k_iconst (pc' := 11) h dX5_odds_10 rfl ci_m1 ?_
      exact k_iret h r dX5_odds_11 (lf_i hf)
noncomputable def l_X5_lots_87 (p1 : Int32) (p2 : Int32) (v3 : Int64) (v5 : Int32) (v6 : Int32) (st : St) : Option ((Int64 × Int32 × Int32 × St) ⊕ (Int64 × Int32 × Int32 × St)) :=
  (if p1 ≤ v6 then (some (.inr (v3, v5, v6, st))) else (gd (nzl (2147483647 : Int64)) (lw ((v3 * (48271 : Int64)) - (v3 * (48271 : Int64)) / (2147483647 : Int64) * (2147483647 : Int64)) (fun y10 => (gd (nzl ((st.1 15 2).toInt64)) (lw ((y10 - y10 / ((st.1 15 2).toInt64) * ((st.1 15 2).toInt64)).toInt32) (fun y12 => (gd (inb y12 6) (gd (inb y12 6) ((f_X3_thoseWhoLook (st.1 (17 + y12.toNatClampNeg) 1) (st.1 (17 + y12.toNatClampNeg) 2) st).bind (fun q15 => ((f_X3_quickestFor q15.1 q15.2).bind (fun q16 => ((f_X3_serveOne y12 q16.1 q16.2).bind (fun q17 => (lw (v5 + q17.1) (fun y18 => (some (.inl (y10, y18, v6 + (1 : Int32), q17.2))))))))))))))))))))
set_option maxHeartbeats 4000000 in
theorem w_X5_lots_87 {G : GG} {X : Cx} (h : Ok X (oC G) cX5_lots RX5 9 (RM 6))  (p1 : Int32) (p2 : Int32)  (n : Nat) (v3 : Int64) (v5 : Int32) (v6 : Int32) (st : St) (q : Int64 × Int32 × Int32 × St) (hq : iter (fun v : Int64 × Int32 × Int32 × St => l_X5_lots_87 p1 p2 v.1 v.2.1 v.2.2.1 v.2.2.2) n (v3, v5, v6, st) = some q) (kx : Wk X (oC G) 9 q.2.2.2 180 [(0, .ref (al (oC G) 0)), (1, .int p1), (2, .int p2), (3, .long q.1), (5, .int q.2.1), (6, .int q.2.2.1)] []) : Wk X (oC G) 9 st 87 [(0, .ref (al (oC G) 0)), (1, .int p1), (2, .int p2), (3, .long v3), (5, .int v5), (6, .int v6)] [] := by
  refine iter_rule (hd := (fun v : Int64 × Int32 × Int32 × St => Wk X (oC G) 9 v.2.2.2 87 [(0, .ref (al (oC G) 0)), (1, .int p1), (2, .int p2), (3, .long v.1), (5, .int v.2.1), (6, .int v.2.2.1)] [])) (ex := (fun v : Int64 × Int32 × Int32 × St => Wk X (oC G) 9 v.2.2.2 180 [(0, .ref (al (oC G) 0)), (1, .int p1), (2, .int p2), (3, .long v.1), (5, .int v.2.1), (6, .int v.2.2.1)] [])) ?_ n (v3, v5, v6, st) q hq kx
  rintro ⟨v3, v5, v6, st⟩ oo hbv K
  show Wk X (oC G) 9 st 87 [(0, .ref (al (oC G) 0)), (1, .int p1), (2, .int p2), (3, .long v3), (5, .int v5), (6, .int v6)] []
  have hf : l_X5_lots_87 p1 p2 v3 v5 v6 st = some oo := hbv
  unfold l_X5_lots_87 at hf
  refine k_iload (pc' := 89) h dX5_lots_87 rfl 5 rfl ?_
  refine k_iload_n (pc' := 90) h dX5_lots_89 rfl rfl 1 rfl ?_
  refine k_icmp_ge (tgt := 180) (pc' := 93) h dX5_lots_90 rfl rfl (fun c8 => ?_) (fun c8 => ?_)
  · replace hf := if_t c8 hf
    refine k_sub (lv' := [(0, .ref (al (oC G) 0)), (1, .int p1), (2, .int p2), (3, .long v3), (5, .int v5), (6, .int v6)]) [0, 1, 2, 3, 4, 5] rfl ?_
    exact lp_o hf K
  · replace hf := if_f c8 hf
    refine k_lload_n (pc' := 94) h dX5_lots_93 rfl rfl 3 rfl ?_
    refine k_ldc2 (pc' := 97) h dX5_lots_94 rfl cst_X5_271 ?_
    refine k_lmul (pc' := 98) h dX5_lots_97 rfl ?_
    refine k_ldc2 (pc' := 101) h dX5_lots_98 rfl cst_X5_269 ?_
    have g9 := gd_1 hf
    replace hf := gd_2 hf
    refine k_lrem (pc' := 102) h dX5_lots_101 rfl (nzl_n g9) ?_
    obtain ⟨y10, hy10, hf⟩ := lw_s hf
    refine k_eql hy10 ?_
    refine k_lstore_n (lv' := [(0, .ref (al (oC G) 0)), (1, .int p1), (2, .int p2), (3, .long y10), (5, .int v5), (6, .int v6)]) (pc' := 103) h dX5_lots_102 rfl rfl (Nat.le_of_ble_eq_true rfl) [1, 2, 3, 0, 4, 5] rfl ?_
    refine k_lload_n (pc' := 104) h dX5_lots_103 rfl rfl 3 rfl ?_
    refine k_aload_n (pc' := 105) h dX5_lots_104 rfl rfl 0 rfl ?_
    refine k_get (v := .ref (al (oC G) 15)) (pc' := 108) h dX5_lots_105 rfl bC_us fl_X5_29 rfl ?_
    refine k_get (v := .int (st.1 15 2)) (pc' := 111) h dX5_lots_108 rfl bC_sh fl_X5_107 rfl ?_
    refine k_i2l (pc' := 112) h dX5_lots_111 rfl ?_
    have g11 := gd_1 hf
    replace hf := gd_2 hf
    refine k_lrem (pc' := 113) h dX5_lots_112 rfl (nzl_n g11) ?_
    refine k_l2i (pc' := 114) h dX5_lots_113 rfl ?_
    obtain ⟨y12, hy12, hf⟩ := lw_s hf
    refine k_eqi hy12 ?_
    refine k_istore (lv' := [(0, .ref (al (oC G) 0)), (1, .int p1), (2, .int p2), (3, .long y10), (5, .int v5), (6, .int v6), (7, .int y12)]) (pc' := 116) h dX5_lots_114 rfl (Nat.le_of_ble_eq_true rfl) [1, 2, 3, 4, 5, 6, 0] rfl ?_
    refine k_aload_n (pc' := 117) h dX5_lots_116 rfl rfl 0 rfl ?_
    refine k_get (v := .ref (al (oC G) 15)) (pc' := 120) h dX5_lots_117 rfl bC_us fl_X5_29 rfl ?_
    refine k_aload_n (pc' := 121) h dX5_lots_120 rfl rfl 0 rfl ?_
    refine k_get (v := .ref (al (oC G) 15)) (pc' := 124) h dX5_lots_121 rfl bC_us fl_X5_29 rfl ?_
    refine k_get (v := .ref (al (oC G) 16)) (pc' := 127) h dX5_lots_124 rfl bC_sh fl_X5_116 rfl ?_
    refine k_iload (pc' := 129) h dX5_lots_127 rfl 6 rfl ?_
    have g13 := gd_1 hf
    replace hf := gd_2 hf
    refine k_aald (tt := .object "TheUsual$Regular") (pc' := 130) h dX5_lots_129 rfl rC_regs rfl rfl g13 ?_
    refine k_get (v := .int (st.1 (17 + y12.toNatClampNeg) 1)) (pc' := 133) h dX5_lots_130 rfl (bC_re (Nat.le_add_right 17 y12.toNatClampNeg) (Nat.add_lt_add_left (inb_lt g13) 17)) fl_X5_138 rfl ?_
    refine k_aload_n (pc' := 134) h dX5_lots_133 rfl rfl 0 rfl ?_
    refine k_get (v := .ref (al (oC G) 15)) (pc' := 137) h dX5_lots_134 rfl bC_us fl_X5_29 rfl ?_
    refine k_get (v := .ref (al (oC G) 16)) (pc' := 140) h dX5_lots_137 rfl bC_sh fl_X5_116 rfl ?_
    refine k_iload (pc' := 142) h dX5_lots_140 rfl 6 rfl ?_
    have g14 := gd_1 hf
    replace hf := gd_2 hf
    refine k_aald (tt := .object "TheUsual$Regular") (pc' := 143) h dX5_lots_142 rfl rC_regs rfl rfl g14 ?_
    refine k_get (v := .int (st.1 (17 + y12.toNatClampNeg) 2)) (pc' := 146) h dX5_lots_143 rfl (bC_re (Nat.le_add_right 17 y12.toNatClampNeg) (Nat.add_lt_add_left (inb_lt g14) 17)) fl_X5_141 rfl ?_
    obtain ⟨q15, hq15, hf⟩ := bd_s hf
    refine k_callV (As := [.int (st.1 (17 + y12.toNatClampNeg) 1), .int (st.1 (17 + y12.toNatClampNeg) 2)]) (rest := []) (rv := some (.int q15.1)) (st' := q15.2) (stk' := [.int q15.1]) (pc' := 149) h dX5_lots_146 rfl ml_X5_144 wc_X3_thoseWhoLook wi_X3_thoseWhoLook ⟨Nat.le_of_ble_eq_true rfl, Nat.le_of_ble_eq_true rfl⟩ bC_sh rfl rfl rfl rfl (Nat.le_of_ble_eq_true rfl) (fun l => c_X3_thoseWhoLook l (st.1 (17 + y12.toNatClampNeg) 1) (st.1 (17 + y12.toNatClampNeg) 2) st  _ _ hq15) rfl ?_
    refine k_istore (lv' := [(0, .ref (al (oC G) 0)), (1, .int p1), (2, .int p2), (3, .long y10), (5, .int v5), (6, .int v6), (7, .int y12), (8, .int q15.1)]) (pc' := 151) h dX5_lots_149 rfl (Nat.le_of_ble_eq_true rfl) [1, 2, 3, 4, 5, 6, 7, 0] rfl ?_
    refine k_iload (pc' := 153) h dX5_lots_151 rfl 4 rfl ?_
    refine k_aload_n (pc' := 154) h dX5_lots_153 rfl rfl 0 rfl ?_
    refine k_get (v := .ref (al (oC G) 15)) (pc' := 157) h dX5_lots_154 rfl bC_us fl_X5_29 rfl ?_
    refine k_iload (pc' := 159) h dX5_lots_157 rfl 6 rfl ?_
    refine k_aload_n (pc' := 160) h dX5_lots_159 rfl rfl 0 rfl ?_
    refine k_get (v := .ref (al (oC G) 15)) (pc' := 163) h dX5_lots_160 rfl bC_us fl_X5_29 rfl ?_
    refine k_iload (pc' := 165) h dX5_lots_163 rfl 7 rfl ?_
    obtain ⟨q16, hq16, hf⟩ := bd_s hf
    refine k_callV (As := [.int q15.1]) (rest := [.int y12, .ref (al (oC G) 15), .int v5]) (rv := some (.int q16.1)) (st' := q16.2) (stk' := [.int q16.1, .int y12, .ref (al (oC G) 15), .int v5]) (pc' := 168) h dX5_lots_165 rfl ml_X5_223 wc_X3_quickestFor wi_X3_quickestFor ⟨Nat.le_of_ble_eq_true rfl, Nat.le_of_ble_eq_true rfl⟩ bC_sh rfl rfl rfl rfl (Nat.le_of_ble_eq_true rfl) (fun l => c_X3_quickestFor l q15.1 q15.2  _ _ hq16) rfl ?_
    obtain ⟨q17, hq17, hf⟩ := bd_s hf
    refine k_callV (As := [.int y12, .int q16.1]) (rest := [.int v5]) (rv := some (.int q17.1)) (st' := q17.2) (stk' := [.int q17.1, .int v5]) (pc' := 171) h dX5_lots_168 rfl ml_X5_177 wc_X3_serveOne wi_X3_serveOne ⟨Nat.le_of_ble_eq_true rfl, Nat.le_of_ble_eq_true rfl⟩ bC_sh rfl rfl rfl rfl (Nat.le_of_ble_eq_true rfl) (fun l => c_X3_serveOne l y12 q16.1 q16.2  _ _ hq17) rfl ?_
    refine k_iadd (pc' := 172) h dX5_lots_171 rfl ?_
    obtain ⟨y18, hy18, hf⟩ := lw_s hf
    refine k_eqi hy18 ?_
    refine k_istore (lv' := [(0, .ref (al (oC G) 0)), (1, .int p1), (2, .int p2), (3, .long y10), (5, .int y18), (6, .int v6), (7, .int y12), (8, .int q15.1)]) (pc' := 174) h dX5_lots_172 rfl (Nat.le_of_ble_eq_true rfl) [1, 2, 3, 4, 0, 5, 6, 7] rfl ?_
    refine k_iinc (lv' := [(0, .ref (al (oC G) 0)), (1, .int p1), (2, .int p2), (3, .long y10), (5, .int y18), (6, .int (v6 + (1 : Int32))), (7, .int y12), (8, .int q15.1)]) (pc' := 177) h dX5_lots_174 rfl 5 rfl (congrArg (fun z => v6 + z) ci_1) (Nat.le_of_ble_eq_true rfl) [1, 2, 3, 4, 5, 0, 6, 7] rfl ?_
    refine k_goto (tgt := 87) h dX5_lots_177 rfl ?_
    refine k_sub (lv' := [(0, .ref (al (oC G) 0)), (1, .int p1), (2, .int p2), (3, .long y10), (5, .int y18), (6, .int (v6 + (1 : Int32)))]) [0, 1, 2, 3, 4, 5] rfl ?_
    exact lp_o hf K
noncomputable def f_X5_lots (x0 : Int32) (x1 : Int32) (st : St) : Option (Int32 × St) :=
  (if x0 < (1 : Int32) then (some ((-1 : Int32), st)) else (if (20 : Int32) < x0 then (some ((-1 : Int32), st)) else (if x1 < (1 : Int32) then (some ((-1 : Int32), st)) else (if (lg_cmp x1.toInt64 (2147483647 : Int64)) < 0 then (if (st.1 15 2) = 0 then (some ((-4 : Int32), st)) else (if ((st.1 15 4) + ((70 : Int32) * x0)) ≤ (9999 : Int32) then (if ((st.1 33 2) + x0) ≤ (60 : Int32) then ((iter (fun v : Int64 × Int32 × Int32 × St => l_X5_lots_87 x0 x1 v.1 v.2.1 v.2.2.1 v.2.2.2) fuel (x1.toInt64, (0 : Int32), (0 : Int32), st)).bind (fun q19 => (some (q19.2.1, q19.2.2.2)))) else (some ((-2 : Int32), st))) else (some ((-4 : Int32), st)))) else (some ((-1 : Int32), st))))))
set_option maxHeartbeats 4000000 in
theorem c_X5_lots {G : GG} (l : Launch) (x0 : Int32) (x1 : Int32) (st : St)  (rr : Int32) (st' : St) (hf : f_X5_lots x0 x1 st = some (rr, st')) : MM l yX5_lots cX5_lots 9 (some .int) 6 (oC G) [.ref (al (oC G) 0), .int x0, .int x1] st (some (.int rr)) st' := by
  refine mk_MM (by decide +kernel) (Nat.le_of_ble_eq_true rfl) (fun X h r => ?_)
  refine k_sub (lv' := [(0, .ref (al (oC G) 0)), (1, .int x0), (2, .int x1)]) [0, 1, 2] rfl ?_
  unfold f_X5_lots at hf
  refine k_iload_n (pc' := 1) h dX5_lots_0 rfl rfl 1 rfl ?_
  refine k_iconst (pc' := 2) h dX5_lots_1 rfl ci_1 ?_
  refine k_icmp_lt (tgt := 25) (pc' := 5) h dX5_lots_2 rfl rfl (fun c1 => ?_) (fun c1 => ?_)
  · replace hf := if_t c1 hf
    refine k_iconst (pc' := 26) h dX5_lots_25 rfl ci_m1 ?_
    exact k_iret h r dX5_lots_26 (lf_i hf)
  · replace hf := if_f c1 hf
    refine k_iload_n (pc' := 6) h dX5_lots_5 rfl rfl 1 rfl ?_
    refine k_bipush (pc' := 8) h dX5_lots_6 rfl cb_20 ?_
    refine k_icmp_gt (tgt := 25) (pc' := 11) h dX5_lots_8 rfl rfl (fun c2 => ?_) (fun c2 => ?_)
    · replace hf := if_t c2 hf
      refine k_iconst (pc' := 26) h dX5_lots_25 rfl ci_m1 ?_
      exact k_iret h r dX5_lots_26 (lf_i hf)
    · replace hf := if_f c2 hf
      refine k_iload_n (pc' := 12) h dX5_lots_11 rfl rfl 2 rfl ?_
      refine k_iconst (pc' := 13) h dX5_lots_12 rfl ci_1 ?_
      refine k_icmp_lt (tgt := 25) (pc' := 16) h dX5_lots_13 rfl rfl (fun c3 => ?_) (fun c3 => ?_)
      · replace hf := if_t c3 hf
        refine k_iconst (pc' := 26) h dX5_lots_25 rfl ci_m1 ?_
        exact k_iret h r dX5_lots_26 (lf_i hf)
      · replace hf := if_f c3 hf
        refine k_iload_n (pc' := 17) h dX5_lots_16 rfl rfl 2 rfl ?_
        refine k_i2l (pc' := 18) h dX5_lots_17 rfl ?_
        refine k_ldc2 (pc' := 21) h dX5_lots_18 rfl cst_X5_269 ?_
        refine k_lcmp (pc' := 22) h dX5_lots_21 rfl ?_
        refine k_if_lt (tgt := 27) (pc' := 25) h dX5_lots_22 rfl rfl (fun c4 => ?_) (fun c4 => ?_)
        · replace hf := if_t c4 hf
          refine k_aload_n (pc' := 28) h dX5_lots_27 rfl rfl 0 rfl ?_
          refine k_get (v := .ref (al (oC G) 15)) (pc' := 31) h dX5_lots_28 rfl bC_us fl_X5_29 rfl ?_
          refine k_get (v := .int (st.1 15 2)) (pc' := 34) h dX5_lots_31 rfl bC_sh fl_X5_107 rfl ?_
          refine k_if_eq (tgt := 55) (pc' := 37) h dX5_lots_34 rfl rfl (fun c5 => ?_) (fun c5 => ?_)
          · replace hf := if_t c5 hf
            refine k_bipush (pc' := 57) h dX5_lots_55 rfl cb_m4 ?_
            exact k_iret h r dX5_lots_57 (lf_i hf)
          · replace hf := if_f c5 hf
            refine k_aload_n (pc' := 38) h dX5_lots_37 rfl rfl 0 rfl ?_
            refine k_get (v := .ref (al (oC G) 15)) (pc' := 41) h dX5_lots_38 rfl bC_us fl_X5_29 rfl ?_
            refine k_get (v := .int (st.1 15 4)) (pc' := 44) h dX5_lots_41 rfl bC_sh fl_X5_171 rfl ?_
            refine k_bipush (pc' := 46) h dX5_lots_44 rfl cb_70 ?_
            refine k_iload_n (pc' := 47) h dX5_lots_46 rfl rfl 1 rfl ?_
            refine k_imul (pc' := 48) h dX5_lots_47 rfl ?_
            refine k_iadd (pc' := 49) h dX5_lots_48 rfl ?_
            refine k_sipush (pc' := 52) h dX5_lots_49 rfl cs_9999 ?_
            refine k_icmp_le (tgt := 58) (pc' := 55) h dX5_lots_52 rfl rfl (fun c6 => ?_) (fun c6 => ?_)
            · replace hf := if_t c6 hf
              refine k_aload_n (pc' := 59) h dX5_lots_58 rfl rfl 0 rfl ?_
              refine k_get (v := .ref (al (oC G) 15)) (pc' := 62) h dX5_lots_59 rfl bC_us fl_X5_29 rfl ?_
              refine k_get (v := .ref (al (oC G) 33)) (pc' := 65) h dX5_lots_62 rfl bC_sh fl_X5_158 rfl ?_
              refine k_get (v := .int (st.1 33 2)) (pc' := 68) h dX5_lots_65 rfl (bC_tu (Nat.le_of_ble_eq_true rfl : 30 ≤ 33) (Nat.le_of_ble_eq_true rfl : 33 < 34)) fl_X5_162 rfl ?_
              refine k_iload_n (pc' := 69) h dX5_lots_68 rfl rfl 1 rfl ?_
              refine k_iadd (pc' := 70) h dX5_lots_69 rfl ?_
              refine k_bipush (pc' := 72) h dX5_lots_70 rfl cb_60 ?_
              refine k_icmp_le (tgt := 78) (pc' := 75) h dX5_lots_72 rfl rfl (fun c7 => ?_) (fun c7 => ?_)
              · replace hf := if_t c7 hf
                refine k_iload_n (pc' := 79) h dX5_lots_78 rfl rfl 2 rfl ?_
                refine k_i2l (pc' := 80) h dX5_lots_79 rfl ?_
                refine k_lstore_n (lv' := [(0, .ref (al (oC G) 0)), (1, .int x0), (2, .int x1), (3, .long x1.toInt64)]) (pc' := 81) h dX5_lots_80 rfl rfl (Nat.le_of_ble_eq_true rfl) [1, 2, 3, 0] rfl ?_
                refine k_iconst (pc' := 82) h dX5_lots_81 rfl ci_0 ?_
                refine k_istore (lv' := [(0, .ref (al (oC G) 0)), (1, .int x0), (2, .int x1), (3, .long x1.toInt64), (5, .int (0 : Int32))]) (pc' := 84) h dX5_lots_82 rfl (Nat.le_of_ble_eq_true rfl) [1, 2, 3, 4, 0] rfl ?_
                refine k_iconst (pc' := 85) h dX5_lots_84 rfl ci_0 ?_
                refine k_istore (lv' := [(0, .ref (al (oC G) 0)), (1, .int x0), (2, .int x1), (3, .long x1.toInt64), (5, .int (0 : Int32)), (6, .int (0 : Int32))]) (pc' := 87) h dX5_lots_85 rfl (Nat.le_of_ble_eq_true rfl) [1, 2, 3, 4, 5, 0] rfl ?_
                obtain ⟨q19, hq19, hf⟩ := bd_s hf
                refine w_X5_lots_87 h x0 x1  fuel x1.toInt64 (0 : Int32) (0 : Int32) st q19 hq19 ?_
                refine k_iload (pc' := 182) h dX5_lots_180 rfl 4 rfl ?_
                exact k_iret h r dX5_lots_182 (lf_i hf)
              · replace hf := if_f c7 hf
                refine k_bipush (pc' := 77) h dX5_lots_75 rfl cb_m2 ?_
                exact k_iret h r dX5_lots_77 (lf_i hf)
            · replace hf := if_f c6 hf
              refine k_bipush (pc' := 57) h dX5_lots_55 rfl cb_m4 ?_
              exact k_iret h r dX5_lots_57 (lf_i hf)
        · replace hf := if_f c4 hf
          refine k_iconst (pc' := 26) h dX5_lots_25 rfl ci_m1 ?_
          exact k_iret h r dX5_lots_26 (lf_i hf)
noncomputable def f_X5_asked  (st : St) : Option (Int32 × St) :=
  (some (st.1 0 9, st))
set_option maxHeartbeats 4000000 in
theorem c_X5_asked {G : GG} (l : Launch)  (st : St)  (rr : Int32) (st' : St) (hf : f_X5_asked  st = some (rr, st')) : MM l yX5_asked cX5_asked 1 (some .int) 0 (oC G) [.ref (al (oC G) 0)] st (some (.int rr)) st' := by
  refine mk_MM (by decide +kernel) (Nat.le_of_ble_eq_true rfl) (fun X h r => ?_)
  refine k_sub (lv' := [(0, .ref (al (oC G) 0))]) [0] rfl ?_
  unfold f_X5_asked at hf
  refine k_aload_n (pc' := 1) h dX5_asked_0 rfl rfl 0 rfl ?_
  refine k_get (v := .int (st.1 0 9)) (pc' := 4) h dX5_asked_1 rfl bC_us fl_X5_53 rfl ?_
  exact k_iret h r dX5_asked_4 (lf_i hf)
noncomputable def f_X5_upper  (st : St) : Option (Int64 × St) :=
  (some (st.2 0, st))
set_option maxHeartbeats 4000000 in
theorem c_X5_upper {G : GG} (l : Launch)  (st : St)  (rr : Int64) (st' : St) (hf : f_X5_upper  st = some (rr, st')) : MM l yX5_upper cX5_upper 1 (some .long) 0 (oC G) [.ref (al (oC G) 0)] st (some (.long rr)) st' := by
  refine mk_MM (by decide +kernel) (Nat.le_of_ble_eq_true rfl) (fun X h r => ?_)
  refine k_sub (lv' := [(0, .ref (al (oC G) 0))]) [0] rfl ?_
  unfold f_X5_upper at hf
  refine k_aload_n (pc' := 1) h dX5_upper_0 rfl rfl 0 rfl ?_
  refine k_get (v := .long (st.2 0)) (pc' := 4) h dX5_upper_1 rfl bC_us fl_X5_56 rfl ?_
  exact k_lret h r dX5_upper_4 (lf_l hf)
noncomputable def f_X5_lower  (st : St) : Option (Int64 × St) :=
  (some (st.2 1, st))
set_option maxHeartbeats 4000000 in
theorem c_X5_lower {G : GG} (l : Launch)  (st : St)  (rr : Int64) (st' : St) (hf : f_X5_lower  st = some (rr, st')) : MM l yX5_lower cX5_lower 1 (some .long) 0 (oC G) [.ref (al (oC G) 0)] st (some (.long rr)) st' := by
  refine mk_MM (by decide +kernel) (Nat.le_of_ble_eq_true rfl) (fun X h r => ?_)
  refine k_sub (lv' := [(0, .ref (al (oC G) 0))]) [0] rfl ?_
  unfold f_X5_lower at hf
  refine k_aload_n (pc' := 1) h dX5_lower_0 rfl rfl 0 rfl ?_
  refine k_get (v := .long (st.2 1)) (pc' := 4) h dX5_lower_1 rfl bC_us fl_X5_60 rfl ?_
  exact k_lret h r dX5_lower_4 (lf_l hf)
noncomputable def l_X5_thoseThere_8_10 (p3 : Int32) (v1 : Int32) (v4 : Int32) (st : St) : Option ((Int32 × Int32 × St) ⊕ (Int32 × Int32 × St)) :=
  (if p3 ≤ v4 then (some (.inr (v1, v4, st))) else (gd (inb v4 6) (lw (st.1 8 v4.toNatClampNeg) (fun y3 => (if y3 < 0 then (some (.inl (v1, v4 + (1 : Int32), st))) else (some (.inl (v1 + (1 : Int32), v4 + (1 : Int32), st))))))))
set_option maxHeartbeats 4000000 in
theorem w_X5_thoseThere_8_10 {G : GG} {X : Cx} (h : Ok X (oC G) cX5_thoseThere RX5 6 (RM 0))  (p3 : Int32)  (n : Nat) (v1 : Int32) (v4 : Int32) (st : St) (q : Int32 × Int32 × St) (hq : iter (fun v : Int32 × Int32 × St => l_X5_thoseThere_8_10 p3 v.1 v.2.1 v.2.2) n (v1, v4, st) = some q) (kx : Wk X (oC G) 6 q.2.2 36 [(0, .ref (al (oC G) 8)), (1, .int q.1), (2, .ref (al (oC G) 8)), (3, .int p3), (4, .int q.2.1)] []) : Wk X (oC G) 6 st 10 [(0, .ref (al (oC G) 8)), (1, .int v1), (2, .ref (al (oC G) 8)), (3, .int p3), (4, .int v4)] [] := by
  refine iter_rule (hd := (fun v : Int32 × Int32 × St => Wk X (oC G) 6 v.2.2 10 [(0, .ref (al (oC G) 8)), (1, .int v.1), (2, .ref (al (oC G) 8)), (3, .int p3), (4, .int v.2.1)] [])) (ex := (fun v : Int32 × Int32 × St => Wk X (oC G) 6 v.2.2 36 [(0, .ref (al (oC G) 8)), (1, .int v.1), (2, .ref (al (oC G) 8)), (3, .int p3), (4, .int v.2.1)] [])) ?_ n (v1, v4, st) q hq kx
  rintro ⟨v1, v4, st⟩ oo hbv K
  show Wk X (oC G) 6 st 10 [(0, .ref (al (oC G) 8)), (1, .int v1), (2, .ref (al (oC G) 8)), (3, .int p3), (4, .int v4)] []
  have hf : l_X5_thoseThere_8_10 p3 v1 v4 st = some oo := hbv
  unfold l_X5_thoseThere_8_10 at hf
  refine k_iload (pc' := 12) h dX5_thoseThere_10 rfl 4 rfl ?_
  refine k_iload_n (pc' := 13) h dX5_thoseThere_12 rfl rfl 3 rfl ?_
  refine k_icmp_ge (tgt := 36) (pc' := 16) h dX5_thoseThere_13 rfl rfl (fun c1 => ?_) (fun c1 => ?_)
  · replace hf := if_t c1 hf
    refine k_sub (lv' := [(0, .ref (al (oC G) 8)), (1, .int v1), (2, .ref (al (oC G) 8)), (3, .int p3), (4, .int v4)]) [0, 1, 2, 3, 4] rfl ?_
    exact lp_o hf K
  · replace hf := if_f c1 hf
    refine k_aload_n (pc' := 17) h dX5_thoseThere_16 rfl rfl 2 rfl ?_
    refine k_iload (pc' := 19) h dX5_thoseThere_17 rfl 4 rfl ?_
    have g2 := gd_1 hf
    replace hf := gd_2 hf
    refine k_iald (pc' := 20) h dX5_thoseThere_19 rfl aC_rs g2 ?_
    obtain ⟨y3, hy3, hf⟩ := lw_s hf
    refine k_eqi hy3 ?_
    refine k_istore (lv' := [(0, .ref (al (oC G) 8)), (1, .int v1), (2, .ref (al (oC G) 8)), (3, .int p3), (4, .int v4), (5, .int y3)]) (pc' := 22) h dX5_thoseThere_20 rfl (Nat.le_of_ble_eq_true rfl) [1, 2, 3, 4, 5, 0] rfl ?_
    refine k_iload (pc' := 24) h dX5_thoseThere_22 rfl 5 rfl ?_
    refine k_if_lt (tgt := 30) (pc' := 27) h dX5_thoseThere_24 rfl rfl (fun c4 => ?_) (fun c4 => ?_)
    · replace hf := if_t c4 hf
      refine k_iinc (lv' := [(0, .ref (al (oC G) 8)), (1, .int v1), (2, .ref (al (oC G) 8)), (3, .int p3), (4, .int (v4 + (1 : Int32))), (5, .int y3)]) (pc' := 33) h dX5_thoseThere_30 rfl 4 rfl (congrArg (fun z => v4 + z) ci_1) (Nat.le_of_ble_eq_true rfl) [1, 2, 3, 4, 0, 5] rfl ?_
      refine k_goto (tgt := 10) h dX5_thoseThere_33 rfl ?_
      refine k_sub (lv' := [(0, .ref (al (oC G) 8)), (1, .int v1), (2, .ref (al (oC G) 8)), (3, .int p3), (4, .int (v4 + (1 : Int32)))]) [0, 1, 2, 3, 4] rfl ?_
      exact lp_o hf K
    · replace hf := if_f c4 hf
      refine k_iinc (lv' := [(0, .ref (al (oC G) 8)), (1, .int (v1 + (1 : Int32))), (2, .ref (al (oC G) 8)), (3, .int p3), (4, .int v4), (5, .int y3)]) (pc' := 30) h dX5_thoseThere_27 rfl 1 rfl (congrArg (fun z => v1 + z) ci_1) (Nat.le_of_ble_eq_true rfl) [1, 0, 2, 3, 4, 5] rfl ?_
      refine k_iinc (lv' := [(0, .ref (al (oC G) 8)), (1, .int (v1 + (1 : Int32))), (2, .ref (al (oC G) 8)), (3, .int p3), (4, .int (v4 + (1 : Int32))), (5, .int y3)]) (pc' := 33) h dX5_thoseThere_30 rfl 4 rfl (congrArg (fun z => v4 + z) ci_1) (Nat.le_of_ble_eq_true rfl) [1, 2, 3, 4, 0, 5] rfl ?_
      refine k_goto (tgt := 10) h dX5_thoseThere_33 rfl ?_
      refine k_sub (lv' := [(0, .ref (al (oC G) 8)), (1, .int (v1 + (1 : Int32))), (2, .ref (al (oC G) 8)), (3, .int p3), (4, .int (v4 + (1 : Int32)))]) [0, 1, 2, 3, 4] rfl ?_
      exact lp_o hf K
noncomputable def f_X5_thoseThere_8  (st : St) : Option (Int32 × St) :=
  ((iter (fun v : Int32 × Int32 × St => l_X5_thoseThere_8_10 (6 : Int32) v.1 v.2.1 v.2.2) fuel ((0 : Int32), (0 : Int32), st)).bind (fun q5 => (some (q5.1, q5.2.2))))
set_option maxHeartbeats 4000000 in
theorem c_X5_thoseThere_8 {G : GG} (l : Launch)  (st : St)  (rr : Int32) (st' : St) (hf : f_X5_thoseThere_8  st = some (rr, st')) : MM l yX5_thoseThere cX5_thoseThere 6 (some .int) 0 (oC G) [.ref (al (oC G) 8)] st (some (.int rr)) st' := by
  refine mk_MM (by decide +kernel) (Nat.le_of_ble_eq_true rfl) (fun X h r => ?_)
  refine k_sub (lv' := [(0, .ref (al (oC G) 8))]) [0] rfl ?_
  unfold f_X5_thoseThere_8 at hf
  refine k_iconst (pc' := 1) h dX5_thoseThere_0 rfl ci_0 ?_
  refine k_istore_n (lv' := [(0, .ref (al (oC G) 8)), (1, .int (0 : Int32))]) (pc' := 2) h dX5_thoseThere_1 rfl rfl (Nat.le_of_ble_eq_true rfl) [1, 0] rfl ?_
  refine k_aload_n (pc' := 3) h dX5_thoseThere_2 rfl rfl 0 rfl ?_
  refine k_astore_n (lv' := [(0, .ref (al (oC G) 8)), (1, .int (0 : Int32)), (2, .ref (al (oC G) 8))]) (pc' := 4) h dX5_thoseThere_3 rfl rfl (Nat.le_of_ble_eq_true rfl) [1, 2, 0] rfl ?_
  refine k_aload_n (pc' := 5) h dX5_thoseThere_4 rfl rfl 2 rfl ?_
  refine k_alen (tt := .int) (v := (6 : Int32)) (pc' := 6) h dX5_thoseThere_5 rfl aC_rs rfl (by decide +kernel) ?_
  refine k_istore_n (lv' := [(0, .ref (al (oC G) 8)), (1, .int (0 : Int32)), (2, .ref (al (oC G) 8)), (3, .int (6 : Int32))]) (pc' := 7) h dX5_thoseThere_6 rfl rfl (Nat.le_of_ble_eq_true rfl) [1, 2, 3, 0] rfl ?_
  refine k_iconst (pc' := 8) h dX5_thoseThere_7 rfl ci_0 ?_
  refine k_istore (lv' := [(0, .ref (al (oC G) 8)), (1, .int (0 : Int32)), (2, .ref (al (oC G) 8)), (3, .int (6 : Int32)), (4, .int (0 : Int32))]) (pc' := 10) h dX5_thoseThere_8 rfl (Nat.le_of_ble_eq_true rfl) [1, 2, 3, 4, 0] rfl ?_
  obtain ⟨q5, hq5, hf⟩ := bd_s hf
  refine w_X5_thoseThere_8_10 h (6 : Int32)  fuel (0 : Int32) (0 : Int32) st q5 hq5 ?_
  refine k_iload_n (pc' := 37) h dX5_thoseThere_36 rfl rfl 1 rfl ?_
  exact k_iret h r dX5_thoseThere_37 (lf_i hf)
noncomputable def l_X5_thoseThere_14_10 (p3 : Int32) (v1 : Int32) (v4 : Int32) (st : St) : Option ((Int32 × Int32 × St) ⊕ (Int32 × Int32 × St)) :=
  (if p3 ≤ v4 then (some (.inr (v1, v4, st))) else (gd (inb v4 4) (lw (st.1 14 v4.toNatClampNeg) (fun y3 => (if y3 < 0 then (some (.inl (v1, v4 + (1 : Int32), st))) else (some (.inl (v1 + (1 : Int32), v4 + (1 : Int32), st))))))))
set_option maxHeartbeats 4000000 in
theorem w_X5_thoseThere_14_10 {G : GG} {X : Cx} (h : Ok X (oC G) cX5_thoseThere RX5 6 (RM 0))  (p3 : Int32)  (n : Nat) (v1 : Int32) (v4 : Int32) (st : St) (q : Int32 × Int32 × St) (hq : iter (fun v : Int32 × Int32 × St => l_X5_thoseThere_14_10 p3 v.1 v.2.1 v.2.2) n (v1, v4, st) = some q) (kx : Wk X (oC G) 6 q.2.2 36 [(0, .ref (al (oC G) 14)), (1, .int q.1), (2, .ref (al (oC G) 14)), (3, .int p3), (4, .int q.2.1)] []) : Wk X (oC G) 6 st 10 [(0, .ref (al (oC G) 14)), (1, .int v1), (2, .ref (al (oC G) 14)), (3, .int p3), (4, .int v4)] [] := by
  refine iter_rule (hd := (fun v : Int32 × Int32 × St => Wk X (oC G) 6 v.2.2 10 [(0, .ref (al (oC G) 14)), (1, .int v.1), (2, .ref (al (oC G) 14)), (3, .int p3), (4, .int v.2.1)] [])) (ex := (fun v : Int32 × Int32 × St => Wk X (oC G) 6 v.2.2 36 [(0, .ref (al (oC G) 14)), (1, .int v.1), (2, .ref (al (oC G) 14)), (3, .int p3), (4, .int v.2.1)] [])) ?_ n (v1, v4, st) q hq kx
  rintro ⟨v1, v4, st⟩ oo hbv K
  show Wk X (oC G) 6 st 10 [(0, .ref (al (oC G) 14)), (1, .int v1), (2, .ref (al (oC G) 14)), (3, .int p3), (4, .int v4)] []
  have hf : l_X5_thoseThere_14_10 p3 v1 v4 st = some oo := hbv
  unfold l_X5_thoseThere_14_10 at hf
  refine k_iload (pc' := 12) h dX5_thoseThere_10 rfl 4 rfl ?_
  refine k_iload_n (pc' := 13) h dX5_thoseThere_12 rfl rfl 3 rfl ?_
  refine k_icmp_ge (tgt := 36) (pc' := 16) h dX5_thoseThere_13 rfl rfl (fun c1 => ?_) (fun c1 => ?_)
  · replace hf := if_t c1 hf
    refine k_sub (lv' := [(0, .ref (al (oC G) 14)), (1, .int v1), (2, .ref (al (oC G) 14)), (3, .int p3), (4, .int v4)]) [0, 1, 2, 3, 4] rfl ?_
    exact lp_o hf K
  · replace hf := if_f c1 hf
    refine k_aload_n (pc' := 17) h dX5_thoseThere_16 rfl rfl 2 rfl ?_
    refine k_iload (pc' := 19) h dX5_thoseThere_17 rfl 4 rfl ?_
    have g2 := gd_1 hf
    replace hf := gd_2 hf
    refine k_iald (pc' := 20) h dX5_thoseThere_19 rfl aC_ts g2 ?_
    obtain ⟨y3, hy3, hf⟩ := lw_s hf
    refine k_eqi hy3 ?_
    refine k_istore (lv' := [(0, .ref (al (oC G) 14)), (1, .int v1), (2, .ref (al (oC G) 14)), (3, .int p3), (4, .int v4), (5, .int y3)]) (pc' := 22) h dX5_thoseThere_20 rfl (Nat.le_of_ble_eq_true rfl) [1, 2, 3, 4, 5, 0] rfl ?_
    refine k_iload (pc' := 24) h dX5_thoseThere_22 rfl 5 rfl ?_
    refine k_if_lt (tgt := 30) (pc' := 27) h dX5_thoseThere_24 rfl rfl (fun c4 => ?_) (fun c4 => ?_)
    · replace hf := if_t c4 hf
      refine k_iinc (lv' := [(0, .ref (al (oC G) 14)), (1, .int v1), (2, .ref (al (oC G) 14)), (3, .int p3), (4, .int (v4 + (1 : Int32))), (5, .int y3)]) (pc' := 33) h dX5_thoseThere_30 rfl 4 rfl (congrArg (fun z => v4 + z) ci_1) (Nat.le_of_ble_eq_true rfl) [1, 2, 3, 4, 0, 5] rfl ?_
      refine k_goto (tgt := 10) h dX5_thoseThere_33 rfl ?_
      refine k_sub (lv' := [(0, .ref (al (oC G) 14)), (1, .int v1), (2, .ref (al (oC G) 14)), (3, .int p3), (4, .int (v4 + (1 : Int32)))]) [0, 1, 2, 3, 4] rfl ?_
      exact lp_o hf K
    · replace hf := if_f c4 hf
      refine k_iinc (lv' := [(0, .ref (al (oC G) 14)), (1, .int (v1 + (1 : Int32))), (2, .ref (al (oC G) 14)), (3, .int p3), (4, .int v4), (5, .int y3)]) (pc' := 30) h dX5_thoseThere_27 rfl 1 rfl (congrArg (fun z => v1 + z) ci_1) (Nat.le_of_ble_eq_true rfl) [1, 0, 2, 3, 4, 5] rfl ?_
      refine k_iinc (lv' := [(0, .ref (al (oC G) 14)), (1, .int (v1 + (1 : Int32))), (2, .ref (al (oC G) 14)), (3, .int p3), (4, .int (v4 + (1 : Int32))), (5, .int y3)]) (pc' := 33) h dX5_thoseThere_30 rfl 4 rfl (congrArg (fun z => v4 + z) ci_1) (Nat.le_of_ble_eq_true rfl) [1, 2, 3, 4, 0, 5] rfl ?_
      refine k_goto (tgt := 10) h dX5_thoseThere_33 rfl ?_
      refine k_sub (lv' := [(0, .ref (al (oC G) 14)), (1, .int (v1 + (1 : Int32))), (2, .ref (al (oC G) 14)), (3, .int p3), (4, .int (v4 + (1 : Int32)))]) [0, 1, 2, 3, 4] rfl ?_
      exact lp_o hf K
noncomputable def f_X5_thoseThere_14  (st : St) : Option (Int32 × St) :=
  ((iter (fun v : Int32 × Int32 × St => l_X5_thoseThere_14_10 (4 : Int32) v.1 v.2.1 v.2.2) fuel ((0 : Int32), (0 : Int32), st)).bind (fun q5 => (some (q5.1, q5.2.2))))
set_option maxHeartbeats 4000000 in
theorem c_X5_thoseThere_14 {G : GG} (l : Launch)  (st : St)  (rr : Int32) (st' : St) (hf : f_X5_thoseThere_14  st = some (rr, st')) : MM l yX5_thoseThere cX5_thoseThere 6 (some .int) 0 (oC G) [.ref (al (oC G) 14)] st (some (.int rr)) st' := by
  refine mk_MM (by decide +kernel) (Nat.le_of_ble_eq_true rfl) (fun X h r => ?_)
  refine k_sub (lv' := [(0, .ref (al (oC G) 14))]) [0] rfl ?_
  unfold f_X5_thoseThere_14 at hf
  refine k_iconst (pc' := 1) h dX5_thoseThere_0 rfl ci_0 ?_
  refine k_istore_n (lv' := [(0, .ref (al (oC G) 14)), (1, .int (0 : Int32))]) (pc' := 2) h dX5_thoseThere_1 rfl rfl (Nat.le_of_ble_eq_true rfl) [1, 0] rfl ?_
  refine k_aload_n (pc' := 3) h dX5_thoseThere_2 rfl rfl 0 rfl ?_
  refine k_astore_n (lv' := [(0, .ref (al (oC G) 14)), (1, .int (0 : Int32)), (2, .ref (al (oC G) 14))]) (pc' := 4) h dX5_thoseThere_3 rfl rfl (Nat.le_of_ble_eq_true rfl) [1, 2, 0] rfl ?_
  refine k_aload_n (pc' := 5) h dX5_thoseThere_4 rfl rfl 2 rfl ?_
  refine k_alen (tt := .int) (v := (4 : Int32)) (pc' := 6) h dX5_thoseThere_5 rfl aC_ts rfl (by decide +kernel) ?_
  refine k_istore_n (lv' := [(0, .ref (al (oC G) 14)), (1, .int (0 : Int32)), (2, .ref (al (oC G) 14)), (3, .int (4 : Int32))]) (pc' := 7) h dX5_thoseThere_6 rfl rfl (Nat.le_of_ble_eq_true rfl) [1, 2, 3, 0] rfl ?_
  refine k_iconst (pc' := 8) h dX5_thoseThere_7 rfl ci_0 ?_
  refine k_istore (lv' := [(0, .ref (al (oC G) 14)), (1, .int (0 : Int32)), (2, .ref (al (oC G) 14)), (3, .int (4 : Int32)), (4, .int (0 : Int32))]) (pc' := 10) h dX5_thoseThere_8 rfl (Nat.le_of_ble_eq_true rfl) [1, 2, 3, 4, 0] rfl ?_
  obtain ⟨q5, hq5, hf⟩ := bd_s hf
  refine w_X5_thoseThere_14_10 h (4 : Int32)  fuel (0 : Int32) (0 : Int32) st q5 hq5 ?_
  refine k_iload_n (pc' := 37) h dX5_thoseThere_36 rfl rfl 1 rfl ?_
  exact k_iret h r dX5_thoseThere_37 (lf_i hf)
noncomputable def l_X5_shopsKept_4  (v1 : Int32) (v2 : Int32) (st : St) : Option ((Int32 × Int32 × St) ⊕ (Int32 × Int32 × St)) :=
  (if (3 : Int32) ≤ v2 then (some (.inr (v1, v2, st))) else (gd (inb v2 3) (if (st.1 (24 + v2.toNatClampNeg) 2) = 0 then (some (.inl (v1, v2 + (1 : Int32), st))) else (some (.inl (v1 + (1 : Int32), v2 + (1 : Int32), st))))))
set_option maxHeartbeats 4000000 in
theorem w_X5_shopsKept_4 {G : GG} {X : Cx} (h : Ok X (oC G) cX5_shopsKept RX5 3 (RM 0))    (n : Nat) (v1 : Int32) (v2 : Int32) (st : St) (q : Int32 × Int32 × St) (hq : iter (fun v : Int32 × Int32 × St => l_X5_shopsKept_4  v.1 v.2.1 v.2.2) n (v1, v2, st) = some q) (kx : Wk X (oC G) 3 q.2.2 30 [(0, .ref (al (oC G) 0)), (1, .int q.1), (2, .int q.2.1)] []) : Wk X (oC G) 3 st 4 [(0, .ref (al (oC G) 0)), (1, .int v1), (2, .int v2)] [] := by
  refine iter_rule (hd := (fun v : Int32 × Int32 × St => Wk X (oC G) 3 v.2.2 4 [(0, .ref (al (oC G) 0)), (1, .int v.1), (2, .int v.2.1)] [])) (ex := (fun v : Int32 × Int32 × St => Wk X (oC G) 3 v.2.2 30 [(0, .ref (al (oC G) 0)), (1, .int v.1), (2, .int v.2.1)] [])) ?_ n (v1, v2, st) q hq kx
  rintro ⟨v1, v2, st⟩ oo hbv K
  show Wk X (oC G) 3 st 4 [(0, .ref (al (oC G) 0)), (1, .int v1), (2, .int v2)] []
  have hf : l_X5_shopsKept_4  v1 v2 st = some oo := hbv
  unfold l_X5_shopsKept_4 at hf
  refine k_iload_n (pc' := 5) h dX5_shopsKept_4 rfl rfl 2 rfl ?_
  refine k_iconst (pc' := 6) h dX5_shopsKept_5 rfl ci_3 ?_
  refine k_icmp_ge (tgt := 30) (pc' := 9) h dX5_shopsKept_6 rfl rfl (fun c1 => ?_) (fun c1 => ?_)
  · replace hf := if_t c1 hf
    refine k_sub (lv' := [(0, .ref (al (oC G) 0)), (1, .int v1), (2, .int v2)]) [0, 1, 2] rfl ?_
    exact lp_o hf K
  · replace hf := if_f c1 hf
    refine k_aload_n (pc' := 10) h dX5_shopsKept_9 rfl rfl 0 rfl ?_
    refine k_get (v := .ref (al (oC G) 23)) (pc' := 13) h dX5_shopsKept_10 rfl bC_us fl_X5_35 rfl ?_
    refine k_iload_n (pc' := 14) h dX5_shopsKept_13 rfl rfl 2 rfl ?_
    have g2 := gd_1 hf
    replace hf := gd_2 hf
    refine k_aald (tt := .object "TheUsual$Kept") (pc' := 15) h dX5_shopsKept_14 rfl rC_plc rfl rfl g2 ?_
    refine k_get (v := .int (st.1 (24 + v2.toNatClampNeg) 2)) (pc' := 18) h dX5_shopsKept_15 rfl (bC_ke (Nat.le_add_right 24 v2.toNatClampNeg) (Nat.add_lt_add_left (inb_lt g2) 24)) fl_X5_103 rfl ?_
    refine k_if_eq (tgt := 24) (pc' := 21) h dX5_shopsKept_18 rfl rfl (fun c3 => ?_) (fun c3 => ?_)
    · replace hf := if_t c3 hf
      refine k_iinc (lv' := [(0, .ref (al (oC G) 0)), (1, .int v1), (2, .int (v2 + (1 : Int32)))]) (pc' := 27) h dX5_shopsKept_24 rfl 2 rfl (congrArg (fun z => v2 + z) ci_1) (Nat.le_of_ble_eq_true rfl) [1, 2, 0] rfl ?_
      refine k_goto (tgt := 4) h dX5_shopsKept_27 rfl ?_
      refine k_sub (lv' := [(0, .ref (al (oC G) 0)), (1, .int v1), (2, .int (v2 + (1 : Int32)))]) [0, 1, 2] rfl ?_
      exact lp_o hf K
    · replace hf := if_f c3 hf
      refine k_iinc (lv' := [(0, .ref (al (oC G) 0)), (1, .int (v1 + (1 : Int32))), (2, .int v2)]) (pc' := 24) h dX5_shopsKept_21 rfl 1 rfl (congrArg (fun z => v1 + z) ci_1) (Nat.le_of_ble_eq_true rfl) [1, 0, 2] rfl ?_
      refine k_iinc (lv' := [(0, .ref (al (oC G) 0)), (1, .int (v1 + (1 : Int32))), (2, .int (v2 + (1 : Int32)))]) (pc' := 27) h dX5_shopsKept_24 rfl 2 rfl (congrArg (fun z => v2 + z) ci_1) (Nat.le_of_ble_eq_true rfl) [1, 2, 0] rfl ?_
      refine k_goto (tgt := 4) h dX5_shopsKept_27 rfl ?_
      refine k_sub (lv' := [(0, .ref (al (oC G) 0)), (1, .int (v1 + (1 : Int32))), (2, .int (v2 + (1 : Int32)))]) [0, 1, 2] rfl ?_
      exact lp_o hf K
noncomputable def f_X5_shopsKept  (st : St) : Option (Int32 × St) :=
  ((iter (fun v : Int32 × Int32 × St => l_X5_shopsKept_4  v.1 v.2.1 v.2.2) fuel ((0 : Int32), (0 : Int32), st)).bind (fun q4 => (some (q4.1, q4.2.2))))
set_option maxHeartbeats 4000000 in
theorem c_X5_shopsKept {G : GG} (l : Launch)  (st : St)  (rr : Int32) (st' : St) (hf : f_X5_shopsKept  st = some (rr, st')) : MM l yX5_shopsKept cX5_shopsKept 3 (some .int) 0 (oC G) [.ref (al (oC G) 0)] st (some (.int rr)) st' := by
  refine mk_MM (by decide +kernel) (Nat.le_of_ble_eq_true rfl) (fun X h r => ?_)
  refine k_sub (lv' := [(0, .ref (al (oC G) 0))]) [0] rfl ?_
  unfold f_X5_shopsKept at hf
  refine k_iconst (pc' := 1) h dX5_shopsKept_0 rfl ci_0 ?_
  refine k_istore_n (lv' := [(0, .ref (al (oC G) 0)), (1, .int (0 : Int32))]) (pc' := 2) h dX5_shopsKept_1 rfl rfl (Nat.le_of_ble_eq_true rfl) [1, 0] rfl ?_
  refine k_iconst (pc' := 3) h dX5_shopsKept_2 rfl ci_0 ?_
  refine k_istore_n (lv' := [(0, .ref (al (oC G) 0)), (1, .int (0 : Int32)), (2, .int (0 : Int32))]) (pc' := 4) h dX5_shopsKept_3 rfl rfl (Nat.le_of_ble_eq_true rfl) [1, 2, 0] rfl ?_
  obtain ⟨q4, hq4, hf⟩ := bd_s hf
  refine w_X5_shopsKept_4 h   fuel (0 : Int32) (0 : Int32) st q4 hq4 ?_
  refine k_iload_n (pc' := 31) h dX5_shopsKept_30 rfl rfl 1 rfl ?_
  exact k_iret h r dX5_shopsKept_31 (lf_i hf)
noncomputable def f_X5_count (x0 : Int32) (st : St) : Option (Int32 × St) :=
  (if x0 = (0 : Int32) then (some (st.1 15 2, st)) else (if x0 = (1 : Int32) then (some (st.1 15 3, st)) else (if x0 = (2 : Int32) then (some (st.1 15 4, st)) else (if x0 = (3 : Int32) then (some (st.1 33 2, st)) else (if x0 = (4 : Int32) then ((f_X3_knownOnes  st).bind (fun q6 => (some (q6.1, q6.2)))) else (if x0 = (5 : Int32) then ((f_X3_soursOfAll  st).bind (fun q8 => (some (q8.1, q8.2)))) else (if x0 = (6 : Int32) then ((f_X3_silentOnes  st).bind (fun q10 => (some (q10.1, q10.2)))) else (if x0 = (7 : Int32) then ((f_X5_thoseThere_8  st).bind (fun q12 => (some (q12.1, q12.2)))) else (if x0 = (8 : Int32) then ((f_X5_thoseThere_14  st).bind (fun q14 => (some (q14.1, q14.2)))) else (if x0 = (9 : Int32) then ((f_X5_shopsKept  st).bind (fun q16 => (some (q16.1, q16.2)))) else (some ((-1 : Int32), st))))))))))))
set_option maxHeartbeats 4000000 in
theorem c_X5_count {G : GG} (l : Launch) (x0 : Int32) (st : St)  (rr : Int32) (st' : St) (hf : f_X5_count x0 st = some (rr, st')) : MM l yX5_count cX5_count 2 (some .int) 2 (oC G) [.ref (al (oC G) 0), .int x0] st (some (.int rr)) st' := by
  refine mk_MM (by decide +kernel) (Nat.le_of_ble_eq_true rfl) (fun X h r => ?_)
  refine k_sub (lv' := [(0, .ref (al (oC G) 0)), (1, .int x0)]) [0, 1] rfl ?_
  unfold f_X5_count at hf
  refine k_iload_n (pc' := 1) h dX5_count_0 rfl rfl 1 rfl ?_
  by_cases c1 : x0 = (0 : Int32)
  · replace hf := if_t c1 hf
    refine k_tin (tgt := 56) h 0 dX5_count_1 (by rw [c1]; decide +kernel) (by decide) (by decide) rfl rfl ?_
    refine k_aload_n (pc' := 57) h dX5_count_56 rfl rfl 0 rfl ?_
    refine k_get (v := .ref (al (oC G) 15)) (pc' := 60) h dX5_count_57 rfl bC_us fl_X5_29 rfl ?_
    refine k_get (v := .int (st.1 15 2)) (pc' := 63) h dX5_count_60 rfl bC_sh fl_X5_107 rfl ?_
    exact k_iret h r dX5_count_63 (lf_i hf)
  replace hf := if_f c1 hf
  by_cases c2 : x0 = (1 : Int32)
  · replace hf := if_t c2 hf
    refine k_tin (tgt := 64) h 1 dX5_count_1 (by rw [c2]; decide +kernel) (by decide) (by decide) rfl rfl ?_
    refine k_aload_n (pc' := 65) h dX5_count_64 rfl rfl 0 rfl ?_
    refine k_get (v := .ref (al (oC G) 15)) (pc' := 68) h dX5_count_65 rfl bC_us fl_X5_29 rfl ?_
    refine k_get (v := .int (st.1 15 3)) (pc' := 71) h dX5_count_68 rfl bC_sh fl_X5_125 rfl ?_
    exact k_iret h r dX5_count_71 (lf_i hf)
  replace hf := if_f c2 hf
  by_cases c3 : x0 = (2 : Int32)
  · replace hf := if_t c3 hf
    refine k_tin (tgt := 72) h 2 dX5_count_1 (by rw [c3]; decide +kernel) (by decide) (by decide) rfl rfl ?_
    refine k_aload_n (pc' := 73) h dX5_count_72 rfl rfl 0 rfl ?_
    refine k_get (v := .ref (al (oC G) 15)) (pc' := 76) h dX5_count_73 rfl bC_us fl_X5_29 rfl ?_
    refine k_get (v := .int (st.1 15 4)) (pc' := 79) h dX5_count_76 rfl bC_sh fl_X5_171 rfl ?_
    exact k_iret h r dX5_count_79 (lf_i hf)
  replace hf := if_f c3 hf
  by_cases c4 : x0 = (3 : Int32)
  · replace hf := if_t c4 hf
    refine k_tin (tgt := 80) h 3 dX5_count_1 (by rw [c4]; decide +kernel) (by decide) (by decide) rfl rfl ?_
    refine k_aload_n (pc' := 81) h dX5_count_80 rfl rfl 0 rfl ?_
    refine k_get (v := .ref (al (oC G) 15)) (pc' := 84) h dX5_count_81 rfl bC_us fl_X5_29 rfl ?_
    refine k_get (v := .ref (al (oC G) 33)) (pc' := 87) h dX5_count_84 rfl bC_sh fl_X5_158 rfl ?_
    refine k_get (v := .int (st.1 33 2)) (pc' := 90) h dX5_count_87 rfl (bC_tu (Nat.le_of_ble_eq_true rfl : 30 ≤ 33) (Nat.le_of_ble_eq_true rfl : 33 < 34)) fl_X5_162 rfl ?_
    exact k_iret h r dX5_count_90 (lf_i hf)
  replace hf := if_f c4 hf
  by_cases c5 : x0 = (4 : Int32)
  · replace hf := if_t c5 hf
    refine k_tin (tgt := 91) h 4 dX5_count_1 (by rw [c5]; decide +kernel) (by decide) (by decide) rfl rfl ?_
    refine k_aload_n (pc' := 92) h dX5_count_91 rfl rfl 0 rfl ?_
    refine k_get (v := .ref (al (oC G) 15)) (pc' := 95) h dX5_count_92 rfl bC_us fl_X5_29 rfl ?_
    obtain ⟨q6, hq6, hf⟩ := bd_s hf
    refine k_callV (As := []) (rest := []) (rv := some (.int q6.1)) (st' := q6.2) (stk' := [.int q6.1]) (pc' := 98) h dX5_count_95 rfl ml_X5_273 wc_X3_knownOnes wi_X3_knownOnes ⟨Nat.le_of_ble_eq_true rfl, Nat.le_of_ble_eq_true rfl⟩ bC_sh rfl rfl rfl rfl (Nat.le_of_ble_eq_true rfl) (fun l => c_X3_knownOnes l  st  _ _ hq6) rfl ?_
    exact k_iret h r dX5_count_98 (lf_i hf)
  replace hf := if_f c5 hf
  by_cases c7 : x0 = (5 : Int32)
  · replace hf := if_t c7 hf
    refine k_tin (tgt := 99) h 5 dX5_count_1 (by rw [c7]; decide +kernel) (by decide) (by decide) rfl rfl ?_
    refine k_aload_n (pc' := 100) h dX5_count_99 rfl rfl 0 rfl ?_
    refine k_get (v := .ref (al (oC G) 15)) (pc' := 103) h dX5_count_100 rfl bC_us fl_X5_29 rfl ?_
    obtain ⟨q8, hq8, hf⟩ := bd_s hf
    refine k_callV (As := []) (rest := []) (rv := some (.int q8.1)) (st' := q8.2) (stk' := [.int q8.1]) (pc' := 106) h dX5_count_103 rfl ml_X5_276 wc_X3_soursOfAll wi_X3_soursOfAll ⟨Nat.le_of_ble_eq_true rfl, Nat.le_of_ble_eq_true rfl⟩ bC_sh rfl rfl rfl rfl (Nat.le_of_ble_eq_true rfl) (fun l => c_X3_soursOfAll l  st  _ _ hq8) rfl ?_
    exact k_iret h r dX5_count_106 (lf_i hf)
  replace hf := if_f c7 hf
  by_cases c9 : x0 = (6 : Int32)
  · replace hf := if_t c9 hf
    refine k_tin (tgt := 107) h 6 dX5_count_1 (by rw [c9]; decide +kernel) (by decide) (by decide) rfl rfl ?_
    refine k_aload_n (pc' := 108) h dX5_count_107 rfl rfl 0 rfl ?_
    refine k_get (v := .ref (al (oC G) 15)) (pc' := 111) h dX5_count_108 rfl bC_us fl_X5_29 rfl ?_
    obtain ⟨q10, hq10, hf⟩ := bd_s hf
    refine k_callV (As := []) (rest := []) (rv := some (.int q10.1)) (st' := q10.2) (stk' := [.int q10.1]) (pc' := 114) h dX5_count_111 rfl ml_X5_279 wc_X3_silentOnes wi_X3_silentOnes ⟨Nat.le_of_ble_eq_true rfl, Nat.le_of_ble_eq_true rfl⟩ bC_sh rfl rfl rfl rfl (Nat.le_of_ble_eq_true rfl) (fun l => c_X3_silentOnes l  st  _ _ hq10) rfl ?_
    exact k_iret h r dX5_count_114 (lf_i hf)
  replace hf := if_f c9 hf
  by_cases c11 : x0 = (7 : Int32)
  · replace hf := if_t c11 hf
    refine k_tin (tgt := 115) h 7 dX5_count_1 (by rw [c11]; decide +kernel) (by decide) (by decide) rfl rfl ?_
    refine k_aload_n (pc' := 116) h dX5_count_115 rfl rfl 0 rfl ?_
    refine k_get (v := .ref (al (oC G) 8)) (pc' := 119) h dX5_count_116 rfl bC_us fl_X5_14 rfl ?_
    obtain ⟨q12, hq12, hf⟩ := bd_s hf
    refine k_callS (As := [.ref (al (oC G) 8)]) (rest := []) (rv := some (.int q12.1)) (st' := q12.2) (stk' := [.int q12.1]) (pc' := 122) h dX5_count_119 rfl ml_X5_282 wc_X5_thoseThere ws_X5_thoseThere ⟨Nat.le_of_ble_eq_true rfl, Nat.le_of_ble_eq_true rfl⟩ rfl rfl (Nat.le_of_ble_eq_true rfl) (fun l => c_X5_thoseThere_8 l  st  _ _ hq12) rfl ?_
    exact k_iret h r dX5_count_122 (lf_i hf)
  replace hf := if_f c11 hf
  by_cases c13 : x0 = (8 : Int32)
  · replace hf := if_t c13 hf
    refine k_tin (tgt := 123) h 8 dX5_count_1 (by rw [c13]; decide +kernel) (by decide) (by decide) rfl rfl ?_
    refine k_aload_n (pc' := 124) h dX5_count_123 rfl rfl 0 rfl ?_
    refine k_get (v := .ref (al (oC G) 14)) (pc' := 127) h dX5_count_124 rfl bC_us fl_X5_23 rfl ?_
    obtain ⟨q14, hq14, hf⟩ := bd_s hf
    refine k_callS (As := [.ref (al (oC G) 14)]) (rest := []) (rv := some (.int q14.1)) (st' := q14.2) (stk' := [.int q14.1]) (pc' := 130) h dX5_count_127 rfl ml_X5_282 wc_X5_thoseThere ws_X5_thoseThere ⟨Nat.le_of_ble_eq_true rfl, Nat.le_of_ble_eq_true rfl⟩ rfl rfl (Nat.le_of_ble_eq_true rfl) (fun l => c_X5_thoseThere_14 l  st  _ _ hq14) rfl ?_
    exact k_iret h r dX5_count_130 (lf_i hf)
  replace hf := if_f c13 hf
  by_cases c15 : x0 = (9 : Int32)
  · replace hf := if_t c15 hf
    refine k_tin (tgt := 131) h 9 dX5_count_1 (by rw [c15]; decide +kernel) (by decide) (by decide) rfl rfl ?_
    refine k_aload_n (pc' := 132) h dX5_count_131 rfl rfl 0 rfl ?_
    obtain ⟨q16, hq16, hf⟩ := bd_s hf
    refine k_callV (As := []) (rest := []) (rv := some (.int q16.1)) (st' := q16.2) (stk' := [.int q16.1]) (pc' := 135) h dX5_count_132 rfl ml_X5_286 wc_X5_shopsKept wi_X5_shopsKept ⟨Nat.le_of_ble_eq_true rfl, Nat.le_of_ble_eq_true rfl⟩ bC_us rfl rfl rfl rfl (Nat.le_of_ble_eq_true rfl) (fun l => c_X5_shopsKept l  st  _ _ hq16) rfl ?_
    exact k_iret h r dX5_count_135 (lf_i hf)
  replace hf := if_f c15 hf
  have hsw : x0.toInt ≠ 0 ∧ x0.toInt ≠ 1 ∧ x0.toInt ≠ 2 ∧ x0.toInt ≠ 3 ∧ x0.toInt ≠ 4 ∧ x0.toInt ≠ 5 ∧ x0.toInt ≠ 6 ∧ x0.toInt ≠ 7 ∧ x0.toInt ≠ 8 ∧ x0.toInt ≠ 9 := ⟨sw_ne c1 (by decide +kernel), sw_ne c2 (by decide +kernel), sw_ne c3 (by decide +kernel), sw_ne c4 (by decide +kernel), sw_ne c5 (by decide +kernel), sw_ne c7 (by decide +kernel), sw_ne c9 (by decide +kernel), sw_ne c11 (by decide +kernel), sw_ne c13 (by decide +kernel), sw_ne c15 (by decide +kernel)⟩
  refine k_tout (tgt := 136) h dX5_count_1 (by omega) rfl ?_
  refine k_iconst (pc' := 137) h dX5_count_136 rfl ci_m1 ?_
  exact k_iret h r dX5_count_137 (lf_i hf)
