noncomputable def f_X6_other (x0 : Int32) (x1 : Int32) (st : St) : Option (Int32 × St) :=
  ((f_X6_isRegular x0 st).bind (fun q1 => (if q1.1 = 0 then (some ((-1 : Int32), q1.2)) else ((f_X6_isThing x1 q1.2).bind (fun q3 => (if q3.1 = 0 then (some ((-1 : Int32), q3.2)) else (if (q3.2.1 0 21) ≤ 0 then (gd (inb x0 6) (lw (q3.2.1 11 x0.toNatClampNeg) (fun y7 => (gd (inb x0 6) (ls (sA q3.2 11 (upd (q3.2.1 11) x0.toNatClampNeg x1)) (fun s9 => (some (y7, s9)))))))) else (some ((-4 : Int32), q3.2)))))))))
set_option maxHeartbeats 4000000 in
theorem c_X6_other {G : GG} (l : Launch) (x0 : Int32) (x1 : Int32) (st : St)  (rr : Int32) (st' : St) (hf : f_X6_other x0 x1 st = some (rr, st')) : MM l yX6_other cX6_other 4 (some .int) 2 (oM G) [.ref (al (oM G) 0), .int x0, .int x1] st (some (.int rr)) st' := by
  refine mk_MM (by decide +kernel) (Nat.le_of_ble_eq_true rfl) (fun X h r => ?_)
  refine k_sub (lv' := [(0, .ref (al (oM G) 0)), (1, .int x0), (2, .int x1)]) [0, 1, 2] rfl ?_
  unfold f_X6_other at hf
  refine k_aload_n (pc' := 1) h dX6_other_0 rfl rfl 0 rfl ?_
  refine k_iload_n (pc' := 2) h dX6_other_1 rfl rfl 1 rfl ?_
  obtain ⟨q1, hq1, hf⟩ := bd_s hf
  refine k_callV (As := [.int x0]) (rest := []) (rv := some (.int q1.1)) (st' := q1.2) (stk' := [.int q1.1]) (pc' := 5) h dX6_other_2 rfl ml_X6_163 wc_X6_isRegular wi_X6_isRegular ⟨Nat.le_of_ble_eq_true rfl, Nat.le_of_ble_eq_true rfl⟩ bM_mo rfl rfl rfl rfl (Nat.le_of_ble_eq_true rfl) (fun l => c_X6_isRegular l x0 st  _ _ hq1) rfl ?_
  refine k_if_eq (tgt := 15) (pc' := 8) h dX6_other_5 rfl rfl (fun c2 => ?_) (fun c2 => ?_)
  · replace hf := if_t c2 hf
    refine k_iconst (pc' := 16) h dX6_other_15 rfl ci_m1 ?_
    exact k_iret h r dX6_other_16 (lf_i hf)
  · replace hf := if_f c2 hf
    refine k_iload_n (pc' := 9) h dX6_other_8 rfl rfl 2 rfl ?_
    obtain ⟨q3, hq3, hf⟩ := bd_s hf
    refine k_callS (As := [.int x1]) (rest := []) (rv := some (.int q3.1)) (st' := q3.2) (stk' := [.int q3.1]) (pc' := 12) h dX6_other_9 rfl ml_X6_141 wc_X6_isThing ws_X6_isThing ⟨Nat.le_of_ble_eq_true rfl, Nat.le_of_ble_eq_true rfl⟩ rfl rfl (Nat.le_of_ble_eq_true rfl) (fun l => c_X6_isThing l x1 q1.2  _ _ hq3) rfl ?_
    refine k_if_ne (tgt := 17) (pc' := 15) h dX6_other_12 rfl rfl (fun c4 => ?_) (fun c4 => ?_)
    · replace hf := if_f c4 hf
      refine k_aload_n (pc' := 18) h dX6_other_17 rfl rfl 0 rfl ?_
      refine k_get (v := .int (q3.2.1 0 21)) (pc' := 21) h dX6_other_18 rfl bM_mo fl_X6_138 rfl ?_
      refine k_if_le (tgt := 27) (pc' := 24) h dX6_other_21 rfl rfl (fun c5 => ?_) (fun c5 => ?_)
      · replace hf := if_t c5 hf
        refine k_aload_n (pc' := 28) h dX6_other_27 rfl rfl 0 rfl ?_
        refine k_get (v := .ref (al (oM G) 11)) (pc' := 31) h dX6_other_28 rfl bM_mo fl_X6_45 rfl ?_
        refine k_iload_n (pc' := 32) h dX6_other_31 rfl rfl 1 rfl ?_
        have g6 := gd_1 hf
        replace hf := gd_2 hf
        refine k_iald (pc' := 33) h dX6_other_32 rfl aM_11 g6 ?_
        obtain ⟨y7, hy7, hf⟩ := lw_s hf
        refine k_eqi hy7 ?_
        refine k_istore_n (lv' := [(0, .ref (al (oM G) 0)), (1, .int x0), (2, .int x1), (3, .int y7)]) (pc' := 34) h dX6_other_33 rfl rfl (Nat.le_of_ble_eq_true rfl) [1, 2, 3, 0] rfl ?_
        refine k_aload_n (pc' := 35) h dX6_other_34 rfl rfl 0 rfl ?_
        refine k_get (v := .ref (al (oM G) 11)) (pc' := 38) h dX6_other_35 rfl bM_mo fl_X6_45 rfl ?_
        refine k_iload_n (pc' := 39) h dX6_other_38 rfl rfl 1 rfl ?_
        refine k_iload_n (pc' := 40) h dX6_other_39 rfl rfl 2 rfl ?_
        have g8 := gd_1 hf
        replace hf := gd_2 hf
        refine k_iast (pc' := 41) h dX6_other_40 rfl aM_11 g8 ?_
        obtain ⟨s9, hs9, hf⟩ := ls_s hf
        refine k_st hs9 ?_
        refine k_iload_n (pc' := 42) h dX6_other_41 rfl rfl 3 rfl ?_
        exact k_iret h r dX6_other_42 (lf_i hf)
      · replace hf := if_f c5 hf
        refine k_bipush (pc' := 26) h dX6_other_24 rfl cb_m4 ?_
        exact k_iret h r dX6_other_26 (lf_i hf)
    · replace hf := if_t c4 hf
      refine k_iconst (pc' := 16) h dX6_other_15 rfl ci_m1 ?_
      exact k_iret h r dX6_other_16 (lf_i hf)
noncomputable def l_X6_remember_2  (v1 : Int32) (st : St) : Option ((Int32 × St) ⊕ (Int32 × St)) :=
  (if (14 : Int32) ≤ v1 then (some (.inr (v1, st))) else (gd (inb v1 14) (gd (inb (((14 : Int32) * (st.1 0 21)) + v1) 840) (ls (sA st 15 (upd (st.1 15) (((14 : Int32) * (st.1 0 21)) + v1).toNatClampNeg (st.1 14 v1.toNatClampNeg))) (fun s4 => (some (.inl (v1 + (1 : Int32), s4))))))))
set_option maxHeartbeats 4000000 in
theorem w_X6_remember_2 {G : GG} {X : Cx} (h : Ok X (oM G) cX6_remember RX6 2 (RM 0))    (n : Nat) (v1 : Int32) (st : St) (q : Int32 × St) (hq : iter (fun v : Int32 × St => l_X6_remember_2  v.1 v.2) n (v1, st) = some q) (kx : Wk X (oM G) 2 q.2 34 [(0, .ref (al (oM G) 0)), (1, .int q.1)] []) : Wk X (oM G) 2 st 2 [(0, .ref (al (oM G) 0)), (1, .int v1)] [] := by
  refine iter_rule (hd := (fun v : Int32 × St => Wk X (oM G) 2 v.2 2 [(0, .ref (al (oM G) 0)), (1, .int v.1)] [])) (ex := (fun v : Int32 × St => Wk X (oM G) 2 v.2 34 [(0, .ref (al (oM G) 0)), (1, .int v.1)] [])) ?_ n (v1, st) q hq kx
  rintro ⟨v1, st⟩ oo hbv K
  show Wk X (oM G) 2 st 2 [(0, .ref (al (oM G) 0)), (1, .int v1)] []
  have hf : l_X6_remember_2  v1 st = some oo := hbv
  unfold l_X6_remember_2 at hf
  refine k_iload_n (pc' := 3) h dX6_remember_2 rfl rfl 1 rfl ?_
  refine k_bipush (pc' := 5) h dX6_remember_3 rfl cb_14 ?_
  refine k_icmp_ge (tgt := 34) (pc' := 8) h dX6_remember_5 rfl rfl (fun c1 => ?_) (fun c1 => ?_)
  · replace hf := if_t c1 hf
    refine k_sub (lv' := [(0, .ref (al (oM G) 0)), (1, .int v1)]) [0, 1] rfl ?_
    exact lp_o hf K
  · replace hf := if_f c1 hf
    refine k_aload_n (pc' := 9) h dX6_remember_8 rfl rfl 0 rfl ?_
    refine k_get (v := .ref (al (oM G) 15)) (pc' := 12) h dX6_remember_9 rfl bM_mo fl_X6_57 rfl ?_
    refine k_bipush (pc' := 14) h dX6_remember_12 rfl cb_14 ?_
    refine k_aload_n (pc' := 15) h dX6_remember_14 rfl rfl 0 rfl ?_
    refine k_get (v := .int (st.1 0 21)) (pc' := 18) h dX6_remember_15 rfl bM_mo fl_X6_138 rfl ?_
    refine k_imul (pc' := 19) h dX6_remember_18 rfl ?_
    refine k_iload_n (pc' := 20) h dX6_remember_19 rfl rfl 1 rfl ?_
    refine k_iadd (pc' := 21) h dX6_remember_20 rfl ?_
    refine k_aload_n (pc' := 22) h dX6_remember_21 rfl rfl 0 rfl ?_
    refine k_get (v := .ref (al (oM G) 14)) (pc' := 25) h dX6_remember_22 rfl bM_mo fl_X6_54 rfl ?_
    refine k_iload_n (pc' := 26) h dX6_remember_25 rfl rfl 1 rfl ?_
    have g2 := gd_1 hf
    replace hf := gd_2 hf
    refine k_iald (pc' := 27) h dX6_remember_26 rfl aM_14 g2 ?_
    have g3 := gd_1 hf
    replace hf := gd_2 hf
    refine k_iast (pc' := 28) h dX6_remember_27 rfl aM_15 g3 ?_
    obtain ⟨s4, hs4, hf⟩ := ls_s hf
    refine k_st hs4 ?_
    refine k_iinc (lv' := [(0, .ref (al (oM G) 0)), (1, .int (v1 + (1 : Int32)))]) (pc' := 31) h dX6_remember_28 rfl 1 rfl (congrArg (fun z => v1 + z) ci_1) (Nat.le_of_ble_eq_true rfl) [1, 0] rfl ?_
    refine k_goto (tgt := 2) h dX6_remember_31 rfl ?_
    refine k_sub (lv' := [(0, .ref (al (oM G) 0)), (1, .int (v1 + (1 : Int32)))]) [0, 1] rfl ?_
    exact lp_o hf K
noncomputable def f_X6_remember  (st : St) : Option (St) :=
  ((iter (fun v : Int32 × St => l_X6_remember_2  v.1 v.2) fuel ((0 : Int32), st)).bind (fun q5 => (ls (sA q5.2 0 (upd (q5.2.1 0) 21 ((q5.2.1 0 21) + (1 : Int32)))) (fun s6 => (some s6)))))
set_option maxHeartbeats 4000000 in
theorem c_X6_remember {G : GG} (l : Launch)  (st : St)  (st' : St) (hf : f_X6_remember  st = some st') : MM l yX6_remember cX6_remember 2 none 0 (oM G) [.ref (al (oM G) 0)] st none st' := by
  refine mk_MM (by decide +kernel) (Nat.le_of_ble_eq_true rfl) (fun X h r => ?_)
  refine k_sub (lv' := [(0, .ref (al (oM G) 0))]) [0] rfl ?_
  unfold f_X6_remember at hf
  refine k_iconst (pc' := 1) h dX6_remember_0 rfl ci_0 ?_
  refine k_istore_n (lv' := [(0, .ref (al (oM G) 0)), (1, .int (0 : Int32))]) (pc' := 2) h dX6_remember_1 rfl rfl (Nat.le_of_ble_eq_true rfl) [1, 0] rfl ?_
  obtain ⟨q5, hq5, hf⟩ := bd_s hf
  refine w_X6_remember_2 h   fuel (0 : Int32) st q5 hq5 ?_
  refine k_aload_n (pc' := 35) h dX6_remember_34 rfl rfl 0 rfl ?_
  refine k_dup (pc' := 36) h dX6_remember_35 rfl rfl ?_
  refine k_get (v := .int (q5.2.1 0 21)) (pc' := 39) h dX6_remember_36 rfl bM_mo fl_X6_138 rfl ?_
  refine k_iconst (pc' := 40) h dX6_remember_39 rfl ci_1 ?_
  refine k_iadd (pc' := 41) h dX6_remember_40 rfl ?_
  refine k_put (pc' := 44) h dX6_remember_41 rfl bM_mo fp_X6_138 sf_mo_21 sj_mo_21 ?_
  obtain ⟨s6, hs6, hf⟩ := ls_s hf
  refine k_st hs6 ?_
  exact k_vret h r dX6_remember_44 (lf_v hf)
noncomputable def f_X6_serves (x0 : Int32) (x1 : Int32) (st : St) : Option (Int32 × St) :=
  ((f_X6_takesIn x0 x1 st).bind (fun q1 => ((f_X6_isSour x0 x1 q1.2).bind (fun q2 => ((f_X6_remember  q2.2).bind (fun q3 => (gd (inb x0 14) (gd (inb x0 14) (ls (sA q3 14 (upd (q3.1 14) x0.toNatClampNeg ((q3.1 14 x0.toNatClampNeg) + (1 : Int32)))) (fun s6 => (gd (inb ((6 : Int32) + x0) 14) (if q2.1 = 0 then (gd (inb ((6 : Int32) + x0) 14) (ls (sA s6 14 (upd (s6.1 14) ((6 : Int32) + x0).toNatClampNeg ((s6.1 14 ((6 : Int32) + x0).toNatClampNeg) + (0 : Int32)))) (fun s10 => (gd (inb (13 : Int32) 14) (gd (inb (13 : Int32) 14) (ls (sA s10 14 (upd (s10.1 14) (13 : Int32).toNatClampNeg ((s10.1 14 (13 : Int32).toNatClampNeg) + q1.1))) (fun s13 => (some (q1.1, s13))))))))) else (gd (inb ((6 : Int32) + x0) 14) (ls (sA s6 14 (upd (s6.1 14) ((6 : Int32) + x0).toNatClampNeg ((s6.1 14 ((6 : Int32) + x0).toNatClampNeg) + (1 : Int32)))) (fun s15 => (gd (inb (13 : Int32) 14) (gd (inb (13 : Int32) 14) (ls (sA s15 14 (upd (s15.1 14) (13 : Int32).toNatClampNeg ((s15.1 14 (13 : Int32).toNatClampNeg) + q1.1))) (fun s18 => (some (q1.1, s18)))))))))))))))))))))
set_option maxHeartbeats 4000000 in
theorem c_X6_serves {G : GG} (l : Launch) (x0 : Int32) (x1 : Int32) (st : St)  (rr : Int32) (st' : St) (hf : f_X6_serves x0 x1 st = some (rr, st')) : MM l yX6_serves cX6_serves 5 (some .int) 4 (oM G) [.ref (al (oM G) 0), .int x0, .int x1] st (some (.int rr)) st' := by
  refine mk_MM (by decide +kernel) (Nat.le_of_ble_eq_true rfl) (fun X h r => ?_)
  refine k_sub (lv' := [(0, .ref (al (oM G) 0)), (1, .int x0), (2, .int x1)]) [0, 1, 2] rfl ?_
  unfold f_X6_serves at hf
  refine k_aload_n (pc' := 1) h dX6_serves_0 rfl rfl 0 rfl ?_
  refine k_iload_n (pc' := 2) h dX6_serves_1 rfl rfl 1 rfl ?_
  refine k_iload_n (pc' := 3) h dX6_serves_2 rfl rfl 2 rfl ?_
  obtain ⟨q1, hq1, hf⟩ := bd_s hf
  refine k_callV (As := [.int x0, .int x1]) (rest := []) (rv := some (.int q1.1)) (st' := q1.2) (stk' := [.int q1.1]) (pc' := 6) h dX6_serves_3 rfl ml_X6_184 wc_X6_takesIn wi_X6_takesIn ⟨Nat.le_of_ble_eq_true rfl, Nat.le_of_ble_eq_true rfl⟩ bM_mo rfl rfl rfl rfl (Nat.le_of_ble_eq_true rfl) (fun l => c_X6_takesIn l x0 x1 st  _ _ hq1) rfl ?_
  refine k_istore_n (lv' := [(0, .ref (al (oM G) 0)), (1, .int x0), (2, .int x1), (3, .int q1.1)]) (pc' := 7) h dX6_serves_6 rfl rfl (Nat.le_of_ble_eq_true rfl) [1, 2, 3, 0] rfl ?_
  refine k_aload_n (pc' := 8) h dX6_serves_7 rfl rfl 0 rfl ?_
  refine k_iload_n (pc' := 9) h dX6_serves_8 rfl rfl 1 rfl ?_
  refine k_iload_n (pc' := 10) h dX6_serves_9 rfl rfl 2 rfl ?_
  obtain ⟨q2, hq2, hf⟩ := bd_s hf
  refine k_callV (As := [.int x0, .int x1]) (rest := []) (rv := some (.int q2.1)) (st' := q2.2) (stk' := [.int q2.1]) (pc' := 13) h dX6_serves_10 rfl ml_X6_169 wc_X6_isSour wi_X6_isSour ⟨Nat.le_of_ble_eq_true rfl, Nat.le_of_ble_eq_true rfl⟩ bM_mo rfl rfl rfl rfl (Nat.le_of_ble_eq_true rfl) (fun l => c_X6_isSour l x0 x1 q1.2  _ _ hq2) rfl ?_
  refine k_istore (lv' := [(0, .ref (al (oM G) 0)), (1, .int x0), (2, .int x1), (3, .int q1.1), (4, .int q2.1)]) (pc' := 15) h dX6_serves_13 rfl (Nat.le_of_ble_eq_true rfl) [1, 2, 3, 4, 0] rfl ?_
  refine k_aload_n (pc' := 16) h dX6_serves_15 rfl rfl 0 rfl ?_
  obtain ⟨q3, hq3, hf⟩ := bd_s hf
  refine k_callV (As := []) (rest := []) (rv := none) (st' := q3) (stk' := []) (pc' := 19) h dX6_serves_16 rfl ml_X6_187 wc_X6_remember wi_X6_remember ⟨Nat.le_of_ble_eq_true rfl, Nat.le_of_ble_eq_true rfl⟩ bM_mo rfl rfl rfl rfl (Nat.le_of_ble_eq_true rfl) (fun l => c_X6_remember l  q2.2  _ hq3) rfl ?_
  refine k_aload_n (pc' := 20) h dX6_serves_19 rfl rfl 0 rfl ?_
  refine k_get (v := .ref (al (oM G) 14)) (pc' := 23) h dX6_serves_20 rfl bM_mo fl_X6_54 rfl ?_
  refine k_iload_n (pc' := 24) h dX6_serves_23 rfl rfl 1 rfl ?_
  refine k_dup2 (pc' := 25) h dX6_serves_24 rfl rfl rfl ?_
  have g4 := gd_1 hf
  replace hf := gd_2 hf
  refine k_iald (pc' := 26) h dX6_serves_25 rfl aM_14 g4 ?_
  refine k_iconst (pc' := 27) h dX6_serves_26 rfl ci_1 ?_
  refine k_iadd (pc' := 28) h dX6_serves_27 rfl ?_
  have g5 := gd_1 hf
  replace hf := gd_2 hf
  refine k_iast (pc' := 29) h dX6_serves_28 rfl aM_14 g5 ?_
  obtain ⟨s6, hs6, hf⟩ := ls_s hf
  refine k_st hs6 ?_
  refine k_aload_n (pc' := 30) h dX6_serves_29 rfl rfl 0 rfl ?_
  refine k_get (v := .ref (al (oM G) 14)) (pc' := 33) h dX6_serves_30 rfl bM_mo fl_X6_54 rfl ?_
  refine k_bipush (pc' := 35) h dX6_serves_33 rfl cb_6 ?_
  refine k_iload_n (pc' := 36) h dX6_serves_35 rfl rfl 1 rfl ?_
  refine k_iadd (pc' := 37) h dX6_serves_36 rfl ?_
  refine k_dup2 (pc' := 38) h dX6_serves_37 rfl rfl rfl ?_
  have g7 := gd_1 hf
  replace hf := gd_2 hf
  refine k_iald (pc' := 39) h dX6_serves_38 rfl aM_14 g7 ?_
  refine k_iload (pc' := 41) h dX6_serves_39 rfl 4 rfl ?_
  refine k_if_eq (tgt := 48) (pc' := 44) h dX6_serves_41 rfl rfl (fun c8 => ?_) (fun c8 => ?_)
  · replace hf := if_t c8 hf
    refine k_iconst (pc' := 49) h dX6_serves_48 rfl ci_0 ?_
    refine k_iadd (pc' := 50) h dX6_serves_49 rfl ?_
    have g9 := gd_1 hf
    replace hf := gd_2 hf
    refine k_iast (pc' := 51) h dX6_serves_50 rfl aM_14 g9 ?_
    obtain ⟨s10, hs10, hf⟩ := ls_s hf
    refine k_st hs10 ?_
    refine k_aload_n (pc' := 52) h dX6_serves_51 rfl rfl 0 rfl ?_
    refine k_get (v := .ref (al (oM G) 14)) (pc' := 55) h dX6_serves_52 rfl bM_mo fl_X6_54 rfl ?_
    refine k_bipush (pc' := 57) h dX6_serves_55 rfl cb_13 ?_
    refine k_dup2 (pc' := 58) h dX6_serves_57 rfl rfl rfl ?_
    have g11 := gd_1 hf
    replace hf := gd_2 hf
    refine k_iald (pc' := 59) h dX6_serves_58 rfl aM_14 g11 ?_
    refine k_iload_n (pc' := 60) h dX6_serves_59 rfl rfl 3 rfl ?_
    refine k_iadd (pc' := 61) h dX6_serves_60 rfl ?_
    have g12 := gd_1 hf
    replace hf := gd_2 hf
    refine k_iast (pc' := 62) h dX6_serves_61 rfl aM_14 g12 ?_
    obtain ⟨s13, hs13, hf⟩ := ls_s hf
    refine k_st hs13 ?_
    refine k_iload_n (pc' := 63) h dX6_serves_62 rfl rfl 3 rfl ?_
    exact k_iret h r dX6_serves_63 (lf_i hf)
  · replace hf := if_f c8 hf
    refine k_iconst (pc' := 45) h dX6_serves_44 rfl ci_1 ?_
    refine k_goto (tgt := 49) h dX6_serves_45 rfl ?_
    refine k_iadd (pc' := 50) h dX6_serves_49 rfl ?_
    have g14 := gd_1 hf
    replace hf := gd_2 hf
    refine k_iast (pc' := 51) h dX6_serves_50 rfl aM_14 g14 ?_
    obtain ⟨s15, hs15, hf⟩ := ls_s hf
    refine k_st hs15 ?_
    refine k_aload_n (pc' := 52) h dX6_serves_51 rfl rfl 0 rfl ?_
    refine k_get (v := .ref (al (oM G) 14)) (pc' := 55) h dX6_serves_52 rfl bM_mo fl_X6_54 rfl ?_
    refine k_bipush (pc' := 57) h dX6_serves_55 rfl cb_13 ?_
    refine k_dup2 (pc' := 58) h dX6_serves_57 rfl rfl rfl ?_
    have g16 := gd_1 hf
    replace hf := gd_2 hf
    refine k_iald (pc' := 59) h dX6_serves_58 rfl aM_14 g16 ?_
    refine k_iload_n (pc' := 60) h dX6_serves_59 rfl rfl 3 rfl ?_
    refine k_iadd (pc' := 61) h dX6_serves_60 rfl ?_
    have g17 := gd_1 hf
    replace hf := gd_2 hf
    refine k_iast (pc' := 62) h dX6_serves_61 rfl aM_14 g17 ?_
    obtain ⟨s18, hs18, hf⟩ := ls_s hf
    refine k_st hs18 ?_
    refine k_iload_n (pc' := 63) h dX6_serves_62 rfl rfl 3 rfl ?_
    exact k_iret h r dX6_serves_63 (lf_i hf)
noncomputable def f_X6_serve (x0 : Int32) (x1 : Int32) (st : St) : Option (Int32 × St) :=
  ((f_X6_isRegular x0 st).bind (fun q1 => (if q1.1 = 0 then (some ((-1 : Int32), q1.2)) else ((f_X6_isLaid x1 q1.2).bind (fun q3 => (if q3.1 = 0 then (some ((-1 : Int32), q3.2)) else (gd (inb (13 : Int32) 14) ((f_X6_takesIn x0 x1 q3.2).bind (fun q6 => (if ((q3.2.1 14 (13 : Int32).toNatClampNeg) + q6.1) ≤ (9999 : Int32) then (if (q6.2.1 0 21) = (60 : Int32) then (some ((-2 : Int32), q6.2)) else ((f_X6_serves x0 x1 q6.2).bind (fun q9 => (some (q9.1, q9.2))))) else (some ((-4 : Int32), q6.2))))))))))))
set_option maxHeartbeats 4000000 in
theorem c_X6_serve {G : GG} (l : Launch) (x0 : Int32) (x1 : Int32) (st : St)  (rr : Int32) (st' : St) (hf : f_X6_serve x0 x1 st = some (rr, st')) : MM l yX6_serve cX6_serve 3 (some .int) 5 (oM G) [.ref (al (oM G) 0), .int x0, .int x1] st (some (.int rr)) st' := by
  refine mk_MM (by decide +kernel) (Nat.le_of_ble_eq_true rfl) (fun X h r => ?_)
  refine k_sub (lv' := [(0, .ref (al (oM G) 0)), (1, .int x0), (2, .int x1)]) [0, 1, 2] rfl ?_
  unfold f_X6_serve at hf
  refine k_aload_n (pc' := 1) h dX6_serve_0 rfl rfl 0 rfl ?_
  refine k_iload_n (pc' := 2) h dX6_serve_1 rfl rfl 1 rfl ?_
  obtain ⟨q1, hq1, hf⟩ := bd_s hf
  refine k_callV (As := [.int x0]) (rest := []) (rv := some (.int q1.1)) (st' := q1.2) (stk' := [.int q1.1]) (pc' := 5) h dX6_serve_2 rfl ml_X6_163 wc_X6_isRegular wi_X6_isRegular ⟨Nat.le_of_ble_eq_true rfl, Nat.le_of_ble_eq_true rfl⟩ bM_mo rfl rfl rfl rfl (Nat.le_of_ble_eq_true rfl) (fun l => c_X6_isRegular l x0 st  _ _ hq1) rfl ?_
  refine k_if_eq (tgt := 15) (pc' := 8) h dX6_serve_5 rfl rfl (fun c2 => ?_) (fun c2 => ?_)
  · replace hf := if_t c2 hf
    refine k_iconst (pc' := 16) h dX6_serve_15 rfl ci_m1 ?_
    exact k_iret h r dX6_serve_16 (lf_i hf)
  · replace hf := if_f c2 hf
    refine k_iload_n (pc' := 9) h dX6_serve_8 rfl rfl 2 rfl ?_
    obtain ⟨q3, hq3, hf⟩ := bd_s hf
    refine k_callS (As := [.int x1]) (rest := []) (rv := some (.int q3.1)) (st' := q3.2) (stk' := [.int q3.1]) (pc' := 12) h dX6_serve_9 rfl ml_X6_190 wc_X6_isLaid ws_X6_isLaid ⟨Nat.le_of_ble_eq_true rfl, Nat.le_of_ble_eq_true rfl⟩ rfl rfl (Nat.le_of_ble_eq_true rfl) (fun l => c_X6_isLaid l x1 q1.2  _ _ hq3) rfl ?_
    refine k_if_ne (tgt := 17) (pc' := 15) h dX6_serve_12 rfl rfl (fun c4 => ?_) (fun c4 => ?_)
    · replace hf := if_f c4 hf
      refine k_aload_n (pc' := 18) h dX6_serve_17 rfl rfl 0 rfl ?_
      refine k_get (v := .ref (al (oM G) 14)) (pc' := 21) h dX6_serve_18 rfl bM_mo fl_X6_54 rfl ?_
      refine k_bipush (pc' := 23) h dX6_serve_21 rfl cb_13 ?_
      have g5 := gd_1 hf
      replace hf := gd_2 hf
      refine k_iald (pc' := 24) h dX6_serve_23 rfl aM_14 g5 ?_
      refine k_aload_n (pc' := 25) h dX6_serve_24 rfl rfl 0 rfl ?_
      refine k_iload_n (pc' := 26) h dX6_serve_25 rfl rfl 1 rfl ?_
      refine k_iload_n (pc' := 27) h dX6_serve_26 rfl rfl 2 rfl ?_
      obtain ⟨q6, hq6, hf⟩ := bd_s hf
      refine k_callV (As := [.int x0, .int x1]) (rest := [.int (q3.2.1 14 (13 : Int32).toNatClampNeg)]) (rv := some (.int q6.1)) (st' := q6.2) (stk' := [.int q6.1, .int (q3.2.1 14 (13 : Int32).toNatClampNeg)]) (pc' := 30) h dX6_serve_27 rfl ml_X6_184 wc_X6_takesIn wi_X6_takesIn ⟨Nat.le_of_ble_eq_true rfl, Nat.le_of_ble_eq_true rfl⟩ bM_mo rfl rfl rfl rfl (Nat.le_of_ble_eq_true rfl) (fun l => c_X6_takesIn l x0 x1 q3.2  _ _ hq6) rfl ?_
      refine k_iadd (pc' := 31) h dX6_serve_30 rfl ?_
      refine k_sipush (pc' := 34) h dX6_serve_31 rfl cs_9999 ?_
      refine k_icmp_le (tgt := 40) (pc' := 37) h dX6_serve_34 rfl rfl (fun c7 => ?_) (fun c7 => ?_)
      · replace hf := if_t c7 hf
        refine k_aload_n (pc' := 41) h dX6_serve_40 rfl rfl 0 rfl ?_
        refine k_get (v := .int (q6.2.1 0 21)) (pc' := 44) h dX6_serve_41 rfl bM_mo fl_X6_138 rfl ?_
        refine k_bipush (pc' := 46) h dX6_serve_44 rfl cb_60 ?_
        refine k_icmp_ne (tgt := 54) (pc' := 49) h dX6_serve_46 rfl rfl (fun c8 => ?_) (fun c8 => ?_)
        · replace hf := if_f c8 hf
          refine k_aload_n (pc' := 55) h dX6_serve_54 rfl rfl 0 rfl ?_
          refine k_iload_n (pc' := 56) h dX6_serve_55 rfl rfl 1 rfl ?_
          refine k_iload_n (pc' := 57) h dX6_serve_56 rfl rfl 2 rfl ?_
          obtain ⟨q9, hq9, hf⟩ := bd_s hf
          refine k_callV (As := [.int x0, .int x1]) (rest := []) (rv := some (.int q9.1)) (st' := q9.2) (stk' := [.int q9.1]) (pc' := 60) h dX6_serve_57 rfl ml_X6_193 wc_X6_serves wi_X6_serves ⟨Nat.le_of_ble_eq_true rfl, Nat.le_of_ble_eq_true rfl⟩ bM_mo rfl rfl rfl rfl (Nat.le_of_ble_eq_true rfl) (fun l => c_X6_serves l x0 x1 q6.2  _ _ hq9) rfl ?_
          exact k_iret h r dX6_serve_60 (lf_i hf)
        · replace hf := if_t c8 hf
          refine k_bipush (pc' := 51) h dX6_serve_49 rfl cb_m2 ?_
          refine k_goto (tgt := 60) h dX6_serve_51 rfl ?_
          exact k_iret h r dX6_serve_60 (lf_i hf)
      · replace hf := if_f c7 hf
        refine k_bipush (pc' := 39) h dX6_serve_37 rfl cb_m4 ?_
        exact k_iret h r dX6_serve_39 (lf_i hf)
    · replace hf := if_t c4 hf
      refine k_iconst (pc' := 16) h dX6_serve_15 rfl ci_m1 ?_
      exact k_iret h r dX6_serve_16 (lf_i hf)
noncomputable def f_X6_morning  (st : St) : Option (Int32 × St) :=
  (if (st.1 0 10) = 0 then (some ((-4 : Int32), st)) else (if (st.1 0 21) = (60 : Int32) then (some ((-2 : Int32), st)) else ((f_X6_remember  st).bind (fun q3 => (gd (inb (12 : Int32) 14) (gd (inb (12 : Int32) 14) (ls (sA q3 14 (upd (q3.1 14) (12 : Int32).toNatClampNeg ((q3.1 14 (12 : Int32).toNatClampNeg) + (1 : Int32)))) (fun s6 => (gd (inb (13 : Int32) 14) (ls (sA s6 14 (upd (s6.1 14) (13 : Int32).toNatClampNeg (0 : Int32))) (fun s8 => (gd (inb (12 : Int32) 14) (some (s8.1 14 (12 : Int32).toNatClampNeg, s8))))))))))))))
set_option maxHeartbeats 4000000 in
theorem c_X6_morning {G : GG} (l : Launch)  (st : St)  (rr : Int32) (st' : St) (hf : f_X6_morning  st = some (rr, st')) : MM l yX6_morning cX6_morning 1 (some .int) 1 (oM G) [.ref (al (oM G) 0)] st (some (.int rr)) st' := by
  refine mk_MM (by decide +kernel) (Nat.le_of_ble_eq_true rfl) (fun X h r => ?_)
  refine k_sub (lv' := [(0, .ref (al (oM G) 0))]) [0] rfl ?_
  unfold f_X6_morning at hf
  refine k_aload_n (pc' := 1) h dX6_morning_0 rfl rfl 0 rfl ?_
  refine k_get (v := .int (st.1 0 10)) (pc' := 4) h dX6_morning_1 rfl bM_mo fl_X6_135 rfl ?_
  refine k_if_ne (tgt := 10) (pc' := 7) h dX6_morning_4 rfl rfl (fun c1 => ?_) (fun c1 => ?_)
  · replace hf := if_f c1 hf
    refine k_aload_n (pc' := 11) h dX6_morning_10 rfl rfl 0 rfl ?_
    refine k_get (v := .int (st.1 0 21)) (pc' := 14) h dX6_morning_11 rfl bM_mo fl_X6_138 rfl ?_
    refine k_bipush (pc' := 16) h dX6_morning_14 rfl cb_60 ?_
    refine k_icmp_ne (tgt := 22) (pc' := 19) h dX6_morning_16 rfl rfl (fun c2 => ?_) (fun c2 => ?_)
    · replace hf := if_f c2 hf
      refine k_aload_n (pc' := 23) h dX6_morning_22 rfl rfl 0 rfl ?_
      obtain ⟨q3, hq3, hf⟩ := bd_s hf
      refine k_callV (As := []) (rest := []) (rv := none) (st' := q3) (stk' := []) (pc' := 26) h dX6_morning_23 rfl ml_X6_187 wc_X6_remember wi_X6_remember ⟨Nat.le_of_ble_eq_true rfl, Nat.le_of_ble_eq_true rfl⟩ bM_mo rfl rfl rfl rfl (Nat.le_of_ble_eq_true rfl) (fun l => c_X6_remember l  st  _ hq3) rfl ?_
      refine k_aload_n (pc' := 27) h dX6_morning_26 rfl rfl 0 rfl ?_
      refine k_get (v := .ref (al (oM G) 14)) (pc' := 30) h dX6_morning_27 rfl bM_mo fl_X6_54 rfl ?_
      refine k_bipush (pc' := 32) h dX6_morning_30 rfl cb_12 ?_
      refine k_dup2 (pc' := 33) h dX6_morning_32 rfl rfl rfl ?_
      have g4 := gd_1 hf
      replace hf := gd_2 hf
      refine k_iald (pc' := 34) h dX6_morning_33 rfl aM_14 g4 ?_
      refine k_iconst (pc' := 35) h dX6_morning_34 rfl ci_1 ?_
      refine k_iadd (pc' := 36) h dX6_morning_35 rfl ?_
      have g5 := gd_1 hf
      replace hf := gd_2 hf
      refine k_iast (pc' := 37) h dX6_morning_36 rfl aM_14 g5 ?_
      obtain ⟨s6, hs6, hf⟩ := ls_s hf
      refine k_st hs6 ?_
      refine k_aload_n (pc' := 38) h dX6_morning_37 rfl rfl 0 rfl ?_
      refine k_get (v := .ref (al (oM G) 14)) (pc' := 41) h dX6_morning_38 rfl bM_mo fl_X6_54 rfl ?_
      refine k_bipush (pc' := 43) h dX6_morning_41 rfl cb_13 ?_
      refine k_iconst (pc' := 44) h dX6_morning_43 rfl ci_0 ?_
      have g7 := gd_1 hf
      replace hf := gd_2 hf
      refine k_iast (pc' := 45) h dX6_morning_44 rfl aM_14 g7 ?_
      obtain ⟨s8, hs8, hf⟩ := ls_s hf
      refine k_st hs8 ?_
      refine k_aload_n (pc' := 46) h dX6_morning_45 rfl rfl 0 rfl ?_
      refine k_get (v := .ref (al (oM G) 14)) (pc' := 49) h dX6_morning_46 rfl bM_mo fl_X6_54 rfl ?_
      refine k_bipush (pc' := 51) h dX6_morning_49 rfl cb_12 ?_
      have g9 := gd_1 hf
      replace hf := gd_2 hf
      refine k_iald (pc' := 52) h dX6_morning_51 rfl aM_14 g9 ?_
      exact k_iret h r dX6_morning_52 (lf_i hf)
    · replace hf := if_t c2 hf
      refine k_bipush (pc' := 21) h dX6_morning_19 rfl cb_m2 ?_
      exact k_iret h r dX6_morning_21 (lf_i hf)
  · replace hf := if_t c1 hf
    refine k_bipush (pc' := 9) h dX6_morning_7 rfl cb_m4 ?_
    exact k_iret h r dX6_morning_9 (lf_i hf)
noncomputable def l_X6_undo_23 (p1 : Int32) (p2 : Int32) (v3 : Int32) (st : St) : Option ((Int32 × St) ⊕ (Int32 × St)) :=
  (if (14 : Int32) ≤ v3 then (some (.inr (v3, st))) else (if p2 ≤ 0 then (some (.inr (v3, st))) else (gd (inb (((14 : Int32) * p1) + v3) 840) (gd (inb v3 14) (ls (sA st 14 (upd (st.1 14) v3.toNatClampNeg (st.1 15 (((14 : Int32) * p1) + v3).toNatClampNeg))) (fun s8 => (some (.inl (v3 + (1 : Int32), s8)))))))))
set_option maxHeartbeats 4000000 in
theorem w_X6_undo_23 {G : GG} {X : Cx} (h : Ok X (oM G) cX6_undo RX6 4 (RM 1))  (p1 : Int32) (p2 : Int32)  (n : Nat) (v3 : Int32) (st : St) (q : Int32 × St) (hq : iter (fun v : Int32 × St => l_X6_undo_23 p1 p2 v.1 v.2) n (v3, st) = some q) (kx : Wk X (oM G) 4 q.2 56 [(0, .ref (al (oM G) 0)), (1, .int p1), (2, .int p2), (3, .int q.1)] []) : Wk X (oM G) 4 st 23 [(0, .ref (al (oM G) 0)), (1, .int p1), (2, .int p2), (3, .int v3)] [] := by
  refine iter_rule (hd := (fun v : Int32 × St => Wk X (oM G) 4 v.2 23 [(0, .ref (al (oM G) 0)), (1, .int p1), (2, .int p2), (3, .int v.1)] [])) (ex := (fun v : Int32 × St => Wk X (oM G) 4 v.2 56 [(0, .ref (al (oM G) 0)), (1, .int p1), (2, .int p2), (3, .int v.1)] [])) ?_ n (v3, st) q hq kx
  rintro ⟨v3, st⟩ oo hbv K
  show Wk X (oM G) 4 st 23 [(0, .ref (al (oM G) 0)), (1, .int p1), (2, .int p2), (3, .int v3)] []
  have hf : l_X6_undo_23 p1 p2 v3 st = some oo := hbv
  unfold l_X6_undo_23 at hf
  refine k_iload_n (pc' := 24) h dX6_undo_23 rfl rfl 3 rfl ?_
  refine k_bipush (pc' := 26) h dX6_undo_24 rfl cb_14 ?_
  refine k_icmp_ge (tgt := 56) (pc' := 29) h dX6_undo_26 rfl rfl (fun c4 => ?_) (fun c4 => ?_)
  · replace hf := if_t c4 hf
    refine k_sub (lv' := [(0, .ref (al (oM G) 0)), (1, .int p1), (2, .int p2), (3, .int v3)]) [0, 1, 2, 3] rfl ?_
    exact lp_o hf K
  · replace hf := if_f c4 hf
    refine k_iload_n (pc' := 30) h dX6_undo_29 rfl rfl 2 rfl ?_
    refine k_if_le (tgt := 56) (pc' := 33) h dX6_undo_30 rfl rfl (fun c5 => ?_) (fun c5 => ?_)
    · replace hf := if_t c5 hf
      refine k_sub (lv' := [(0, .ref (al (oM G) 0)), (1, .int p1), (2, .int p2), (3, .int v3)]) [0, 1, 2, 3] rfl ?_
      exact lp_o hf K
    · replace hf := if_f c5 hf
      refine k_aload_n (pc' := 34) h dX6_undo_33 rfl rfl 0 rfl ?_
      refine k_get (v := .ref (al (oM G) 14)) (pc' := 37) h dX6_undo_34 rfl bM_mo fl_X6_54 rfl ?_
      refine k_iload_n (pc' := 38) h dX6_undo_37 rfl rfl 3 rfl ?_
      refine k_aload_n (pc' := 39) h dX6_undo_38 rfl rfl 0 rfl ?_
      refine k_get (v := .ref (al (oM G) 15)) (pc' := 42) h dX6_undo_39 rfl bM_mo fl_X6_57 rfl ?_
      refine k_bipush (pc' := 44) h dX6_undo_42 rfl cb_14 ?_
      refine k_iload_n (pc' := 45) h dX6_undo_44 rfl rfl 1 rfl ?_
      refine k_imul (pc' := 46) h dX6_undo_45 rfl ?_
      refine k_iload_n (pc' := 47) h dX6_undo_46 rfl rfl 3 rfl ?_
      refine k_iadd (pc' := 48) h dX6_undo_47 rfl ?_
      have g6 := gd_1 hf
      replace hf := gd_2 hf
      refine k_iald (pc' := 49) h dX6_undo_48 rfl aM_15 g6 ?_
      have g7 := gd_1 hf
      replace hf := gd_2 hf
      refine k_iast (pc' := 50) h dX6_undo_49 rfl aM_14 g7 ?_
      obtain ⟨s8, hs8, hf⟩ := ls_s hf
      refine k_st hs8 ?_
      refine k_iinc (lv' := [(0, .ref (al (oM G) 0)), (1, .int p1), (2, .int p2), (3, .int (v3 + (1 : Int32)))]) (pc' := 53) h dX6_undo_50 rfl 3 rfl (congrArg (fun z => v3 + z) ci_1) (Nat.le_of_ble_eq_true rfl) [1, 2, 3, 0] rfl ?_
      refine k_goto (tgt := 23) h dX6_undo_53 rfl ?_
      refine k_sub (lv' := [(0, .ref (al (oM G) 0)), (1, .int p1), (2, .int p2), (3, .int (v3 + (1 : Int32)))]) [0, 1, 2, 3] rfl ?_
      exact lp_o hf K
noncomputable def f_X6_undo (x0 : Int32) (st : St) : Option (Int32 × St) :=
  ((f_X6_in x0 (0 : Int32) (st.1 0 21) st).bind (fun q1 => (if q1.1 = 0 then (some ((-1 : Int32), q1.2)) else (lw ((q1.2.1 0 21) - x0) (fun y3 => ((iter (fun v : Int32 × St => l_X6_undo_23 x0 y3 v.1 v.2) fuel ((0 : Int32), q1.2)).bind (fun q9 => (ls (sA q9.2 0 (upd (q9.2.1 0) 21 x0)) (fun s10 => (some (y3, s10)))))))))))
set_option maxHeartbeats 4000000 in
theorem c_X6_undo {G : GG} (l : Launch) (x0 : Int32) (st : St)  (rr : Int32) (st' : St) (hf : f_X6_undo x0 st = some (rr, st')) : MM l yX6_undo cX6_undo 4 (some .int) 1 (oM G) [.ref (al (oM G) 0), .int x0] st (some (.int rr)) st' := by
  refine mk_MM (by decide +kernel) (Nat.le_of_ble_eq_true rfl) (fun X h r => ?_)
  refine k_sub (lv' := [(0, .ref (al (oM G) 0)), (1, .int x0)]) [0, 1] rfl ?_
  unfold f_X6_undo at hf
  refine k_iload_n (pc' := 1) h dX6_undo_0 rfl rfl 1 rfl ?_
  refine k_iconst (pc' := 2) h dX6_undo_1 rfl ci_0 ?_
  refine k_aload_n (pc' := 3) h dX6_undo_2 rfl rfl 0 rfl ?_
  refine k_get (v := .int (st.1 0 21)) (pc' := 6) h dX6_undo_3 rfl bM_mo fl_X6_138 rfl ?_
  obtain ⟨q1, hq1, hf⟩ := bd_s hf
  refine k_callS (As := [.int x0, .int (0 : Int32), .int (st.1 0 21)]) (rest := []) (rv := some (.int q1.1)) (st' := q1.2) (stk' := [.int q1.1]) (pc' := 9) h dX6_undo_6 rfl ml_X6_83 wc_X6_in ws_X6_in ⟨Nat.le_of_ble_eq_true rfl, Nat.le_of_ble_eq_true rfl⟩ rfl rfl (Nat.le_of_ble_eq_true rfl) (fun l => c_X6_in l x0 (0 : Int32) (st.1 0 21) st  _ _ hq1) rfl ?_
  refine k_if_ne (tgt := 14) (pc' := 12) h dX6_undo_9 rfl rfl (fun c2 => ?_) (fun c2 => ?_)
  · replace hf := if_f c2 hf
    refine k_aload_n (pc' := 15) h dX6_undo_14 rfl rfl 0 rfl ?_
    refine k_get (v := .int (q1.2.1 0 21)) (pc' := 18) h dX6_undo_15 rfl bM_mo fl_X6_138 rfl ?_
    refine k_iload_n (pc' := 19) h dX6_undo_18 rfl rfl 1 rfl ?_
    refine k_isub (pc' := 20) h dX6_undo_19 rfl ?_
    obtain ⟨y3, hy3, hf⟩ := lw_s hf
    refine k_eqi hy3 ?_
    refine k_istore_n (lv' := [(0, .ref (al (oM G) 0)), (1, .int x0), (2, .int y3)]) (pc' := 21) h dX6_undo_20 rfl rfl (Nat.le_of_ble_eq_true rfl) [1, 2, 0] rfl ?_
    refine k_iconst (pc' := 22) h dX6_undo_21 rfl ci_0 ?_
    refine k_istore_n (lv' := [(0, .ref (al (oM G) 0)), (1, .int x0), (2, .int y3), (3, .int (0 : Int32))]) (pc' := 23) h dX6_undo_22 rfl rfl (Nat.le_of_ble_eq_true rfl) [1, 2, 3, 0] rfl ?_
    obtain ⟨q9, hq9, hf⟩ := bd_s hf
    refine w_X6_undo_23 h x0 y3  fuel (0 : Int32) q1.2 q9 hq9 ?_
    refine k_aload_n (pc' := 57) h dX6_undo_56 rfl rfl 0 rfl ?_
    refine k_iload_n (pc' := 58) h dX6_undo_57 rfl rfl 1 rfl ?_
    refine k_put (pc' := 61) h dX6_undo_58 rfl bM_mo fp_X6_138 sf_mo_21 sj_mo_21 ?_
    obtain ⟨s10, hs10, hf⟩ := ls_s hf
    refine k_st hs10 ?_
    refine k_iload_n (pc' := 62) h dX6_undo_61 rfl rfl 2 rfl ?_
    exact k_iret h r dX6_undo_62 (lf_i hf)
  · replace hf := if_t c2 hf
    refine k_iconst (pc' := 13) h dX6_undo_12 rfl ci_m1 ?_
    exact k_iret h r dX6_undo_13 (lf_i hf)
noncomputable def l_X6_keep_40 (p1 : Int32) (v2 : Int32) (st : St) : Option ((Int32 × St) ⊕ (Int32 × St)) :=
  (if (6 : Int32) ≤ v2 then (some (.inr (v2, st))) else (gd (inb v2 6) (gd (inb (((6 : Int32) * p1) + v2) 18) (ls (sA st 18 (upd (st.1 18) (((6 : Int32) * p1) + v2).toNatClampNeg (st.1 11 v2.toNatClampNeg))) (fun s11 => (some (.inl (v2 + (1 : Int32), s11))))))))
set_option maxHeartbeats 4000000 in
theorem w_X6_keep_40 {G : GG} {X : Cx} (h : Ok X (oM G) cX6_keep RX6 3 (RM 1))  (p1 : Int32)  (n : Nat) (v2 : Int32) (st : St) (q : Int32 × St) (hq : iter (fun v : Int32 × St => l_X6_keep_40 p1 v.1 v.2) n (v2, st) = some q) (kx : Wk X (oM G) 3 q.2 69 [(0, .ref (al (oM G) 0)), (1, .int p1), (2, .int q.1)] []) : Wk X (oM G) 3 st 40 [(0, .ref (al (oM G) 0)), (1, .int p1), (2, .int v2)] [] := by
  refine iter_rule (hd := (fun v : Int32 × St => Wk X (oM G) 3 v.2 40 [(0, .ref (al (oM G) 0)), (1, .int p1), (2, .int v.1)] [])) (ex := (fun v : Int32 × St => Wk X (oM G) 3 v.2 69 [(0, .ref (al (oM G) 0)), (1, .int p1), (2, .int v.1)] [])) ?_ n (v2, st) q hq kx
  rintro ⟨v2, st⟩ oo hbv K
  show Wk X (oM G) 3 st 40 [(0, .ref (al (oM G) 0)), (1, .int p1), (2, .int v2)] []
  have hf : l_X6_keep_40 p1 v2 st = some oo := hbv
  unfold l_X6_keep_40 at hf
  refine k_iload_n (pc' := 41) h dX6_keep_40 rfl rfl 2 rfl ?_
  refine k_bipush (pc' := 43) h dX6_keep_41 rfl cb_6 ?_
  refine k_icmp_ge (tgt := 69) (pc' := 46) h dX6_keep_43 rfl rfl (fun c8 => ?_) (fun c8 => ?_)
  · replace hf := if_t c8 hf
    refine k_sub (lv' := [(0, .ref (al (oM G) 0)), (1, .int p1), (2, .int v2)]) [0, 1, 2] rfl ?_
    exact lp_o hf K
  · replace hf := if_f c8 hf
    refine k_aload_n (pc' := 47) h dX6_keep_46 rfl rfl 0 rfl ?_
    refine k_get (v := .ref (al (oM G) 18)) (pc' := 50) h dX6_keep_47 rfl bM_mo fl_X6_67 rfl ?_
    refine k_bipush (pc' := 52) h dX6_keep_50 rfl cb_6 ?_
    refine k_iload_n (pc' := 53) h dX6_keep_52 rfl rfl 1 rfl ?_
    refine k_imul (pc' := 54) h dX6_keep_53 rfl ?_
    refine k_iload_n (pc' := 55) h dX6_keep_54 rfl rfl 2 rfl ?_
    refine k_iadd (pc' := 56) h dX6_keep_55 rfl ?_
    refine k_aload_n (pc' := 57) h dX6_keep_56 rfl rfl 0 rfl ?_
    refine k_get (v := .ref (al (oM G) 11)) (pc' := 60) h dX6_keep_57 rfl bM_mo fl_X6_45 rfl ?_
    refine k_iload_n (pc' := 61) h dX6_keep_60 rfl rfl 2 rfl ?_
    have g9 := gd_1 hf
    replace hf := gd_2 hf
    refine k_iald (pc' := 62) h dX6_keep_61 rfl aM_11 g9 ?_
    have g10 := gd_1 hf
    replace hf := gd_2 hf
    refine k_iast (pc' := 63) h dX6_keep_62 rfl aM_18 g10 ?_
    obtain ⟨s11, hs11, hf⟩ := ls_s hf
    refine k_st hs11 ?_
    refine k_iinc (lv' := [(0, .ref (al (oM G) 0)), (1, .int p1), (2, .int (v2 + (1 : Int32)))]) (pc' := 66) h dX6_keep_63 rfl 2 rfl (congrArg (fun z => v2 + z) ci_1) (Nat.le_of_ble_eq_true rfl) [1, 2, 0] rfl ?_
    refine k_goto (tgt := 40) h dX6_keep_66 rfl ?_
    refine k_sub (lv' := [(0, .ref (al (oM G) 0)), (1, .int p1), (2, .int (v2 + (1 : Int32)))]) [0, 1, 2] rfl ?_
    exact lp_o hf K
noncomputable def l_X6_keep_71 (p1 : Int32) (v2 : Int32) (st : St) : Option ((Int32 × St) ⊕ (Int32 × St)) :=
  (if (14 : Int32) ≤ v2 then (some (.inr (v2, st))) else (gd (inb v2 14) (gd (inb (((14 : Int32) * p1) + v2) 42) (ls (sA st 19 (upd (st.1 19) (((14 : Int32) * p1) + v2).toNatClampNeg (st.1 14 v2.toNatClampNeg))) (fun s16 => (some (.inl (v2 + (1 : Int32), s16))))))))
set_option maxHeartbeats 4000000 in
theorem w_X6_keep_71 {G : GG} {X : Cx} (h : Ok X (oM G) cX6_keep RX6 3 (RM 1))  (p1 : Int32)  (n : Nat) (v2 : Int32) (st : St) (q : Int32 × St) (hq : iter (fun v : Int32 × St => l_X6_keep_71 p1 v.1 v.2) n (v2, st) = some q) (kx : Wk X (oM G) 3 q.2 100 [(0, .ref (al (oM G) 0)), (1, .int p1), (2, .int q.1)] []) : Wk X (oM G) 3 st 71 [(0, .ref (al (oM G) 0)), (1, .int p1), (2, .int v2)] [] := by
  refine iter_rule (hd := (fun v : Int32 × St => Wk X (oM G) 3 v.2 71 [(0, .ref (al (oM G) 0)), (1, .int p1), (2, .int v.1)] [])) (ex := (fun v : Int32 × St => Wk X (oM G) 3 v.2 100 [(0, .ref (al (oM G) 0)), (1, .int p1), (2, .int v.1)] [])) ?_ n (v2, st) q hq kx
  rintro ⟨v2, st⟩ oo hbv K
  show Wk X (oM G) 3 st 71 [(0, .ref (al (oM G) 0)), (1, .int p1), (2, .int v2)] []
  have hf : l_X6_keep_71 p1 v2 st = some oo := hbv
  unfold l_X6_keep_71 at hf
  refine k_iload_n (pc' := 72) h dX6_keep_71 rfl rfl 2 rfl ?_
  refine k_bipush (pc' := 74) h dX6_keep_72 rfl cb_14 ?_
  refine k_icmp_ge (tgt := 100) (pc' := 77) h dX6_keep_74 rfl rfl (fun c13 => ?_) (fun c13 => ?_)
  · replace hf := if_t c13 hf
    refine k_sub (lv' := [(0, .ref (al (oM G) 0)), (1, .int p1), (2, .int v2)]) [0, 1, 2] rfl ?_
    exact lp_o hf K
  · replace hf := if_f c13 hf
    refine k_aload_n (pc' := 78) h dX6_keep_77 rfl rfl 0 rfl ?_
    refine k_get (v := .ref (al (oM G) 19)) (pc' := 81) h dX6_keep_78 rfl bM_mo fl_X6_70 rfl ?_
    refine k_bipush (pc' := 83) h dX6_keep_81 rfl cb_14 ?_
    refine k_iload_n (pc' := 84) h dX6_keep_83 rfl rfl 1 rfl ?_
    refine k_imul (pc' := 85) h dX6_keep_84 rfl ?_
    refine k_iload_n (pc' := 86) h dX6_keep_85 rfl rfl 2 rfl ?_
    refine k_iadd (pc' := 87) h dX6_keep_86 rfl ?_
    refine k_aload_n (pc' := 88) h dX6_keep_87 rfl rfl 0 rfl ?_
    refine k_get (v := .ref (al (oM G) 14)) (pc' := 91) h dX6_keep_88 rfl bM_mo fl_X6_54 rfl ?_
    refine k_iload_n (pc' := 92) h dX6_keep_91 rfl rfl 2 rfl ?_
    have g14 := gd_1 hf
    replace hf := gd_2 hf
    refine k_iald (pc' := 93) h dX6_keep_92 rfl aM_14 g14 ?_
    have g15 := gd_1 hf
    replace hf := gd_2 hf
    refine k_iast (pc' := 94) h dX6_keep_93 rfl aM_19 g15 ?_
    obtain ⟨s16, hs16, hf⟩ := ls_s hf
    refine k_st hs16 ?_
    refine k_iinc (lv' := [(0, .ref (al (oM G) 0)), (1, .int p1), (2, .int (v2 + (1 : Int32)))]) (pc' := 97) h dX6_keep_94 rfl 2 rfl (congrArg (fun z => v2 + z) ci_1) (Nat.le_of_ble_eq_true rfl) [1, 2, 0] rfl ?_
    refine k_goto (tgt := 71) h dX6_keep_97 rfl ?_
    refine k_sub (lv' := [(0, .ref (al (oM G) 0)), (1, .int p1), (2, .int (v2 + (1 : Int32)))]) [0, 1, 2] rfl ?_
    exact lp_o hf K
noncomputable def l_X6_keep_102 (p1 : Int32) (v2 : Int32) (st : St) : Option ((Int32 × St) ⊕ (Int32 × St)) :=
  (if ((14 : Int32) * (st.1 0 21)) ≤ v2 then (some (.inr (v2, st))) else (gd (inb v2 840) (gd (inb (((840 : Int32) * p1) + v2) 2520) (ls (sA st 20 (upd (st.1 20) (((840 : Int32) * p1) + v2).toNatClampNeg (st.1 15 v2.toNatClampNeg))) (fun s21 => (some (.inl (v2 + (1 : Int32), s21))))))))
set_option maxHeartbeats 4000000 in
theorem w_X6_keep_102 {G : GG} {X : Cx} (h : Ok X (oM G) cX6_keep RX6 3 (RM 1))  (p1 : Int32)  (n : Nat) (v2 : Int32) (st : St) (q : Int32 × St) (hq : iter (fun v : Int32 × St => l_X6_keep_102 p1 v.1 v.2) n (v2, st) = some q) (kx : Wk X (oM G) 3 q.2 137 [(0, .ref (al (oM G) 0)), (1, .int p1), (2, .int q.1)] []) : Wk X (oM G) 3 st 102 [(0, .ref (al (oM G) 0)), (1, .int p1), (2, .int v2)] [] := by
  refine iter_rule (hd := (fun v : Int32 × St => Wk X (oM G) 3 v.2 102 [(0, .ref (al (oM G) 0)), (1, .int p1), (2, .int v.1)] [])) (ex := (fun v : Int32 × St => Wk X (oM G) 3 v.2 137 [(0, .ref (al (oM G) 0)), (1, .int p1), (2, .int v.1)] [])) ?_ n (v2, st) q hq kx
  rintro ⟨v2, st⟩ oo hbv K
  show Wk X (oM G) 3 st 102 [(0, .ref (al (oM G) 0)), (1, .int p1), (2, .int v2)] []
  have hf : l_X6_keep_102 p1 v2 st = some oo := hbv
  unfold l_X6_keep_102 at hf
  refine k_iload_n (pc' := 103) h dX6_keep_102 rfl rfl 2 rfl ?_
  refine k_bipush (pc' := 105) h dX6_keep_103 rfl cb_14 ?_
  refine k_aload_n (pc' := 106) h dX6_keep_105 rfl rfl 0 rfl ?_
  refine k_get (v := .int (st.1 0 21)) (pc' := 109) h dX6_keep_106 rfl bM_mo fl_X6_138 rfl ?_
  refine k_imul (pc' := 110) h dX6_keep_109 rfl ?_
  refine k_icmp_ge (tgt := 137) (pc' := 113) h dX6_keep_110 rfl rfl (fun c18 => ?_) (fun c18 => ?_)
  · replace hf := if_t c18 hf
    refine k_sub (lv' := [(0, .ref (al (oM G) 0)), (1, .int p1), (2, .int v2)]) [0, 1, 2] rfl ?_
    exact lp_o hf K
  · replace hf := if_f c18 hf
    refine k_aload_n (pc' := 114) h dX6_keep_113 rfl rfl 0 rfl ?_
    refine k_get (v := .ref (al (oM G) 20)) (pc' := 117) h dX6_keep_114 rfl bM_mo fl_X6_73 rfl ?_
    refine k_sipush (pc' := 120) h dX6_keep_117 rfl cs_840 ?_
    refine k_iload_n (pc' := 121) h dX6_keep_120 rfl rfl 1 rfl ?_
    refine k_imul (pc' := 122) h dX6_keep_121 rfl ?_
    refine k_iload_n (pc' := 123) h dX6_keep_122 rfl rfl 2 rfl ?_
    refine k_iadd (pc' := 124) h dX6_keep_123 rfl ?_
    refine k_aload_n (pc' := 125) h dX6_keep_124 rfl rfl 0 rfl ?_
    refine k_get (v := .ref (al (oM G) 15)) (pc' := 128) h dX6_keep_125 rfl bM_mo fl_X6_57 rfl ?_
    refine k_iload_n (pc' := 129) h dX6_keep_128 rfl rfl 2 rfl ?_
    have g19 := gd_1 hf
    replace hf := gd_2 hf
    refine k_iald (pc' := 130) h dX6_keep_129 rfl aM_15 g19 ?_
    have g20 := gd_1 hf
    replace hf := gd_2 hf
    refine k_iast (pc' := 131) h dX6_keep_130 rfl aM_20 g20 ?_
    obtain ⟨s21, hs21, hf⟩ := ls_s hf
    refine k_st hs21 ?_
    refine k_iinc (lv' := [(0, .ref (al (oM G) 0)), (1, .int p1), (2, .int (v2 + (1 : Int32)))]) (pc' := 134) h dX6_keep_131 rfl 2 rfl (congrArg (fun z => v2 + z) ci_1) (Nat.le_of_ble_eq_true rfl) [1, 2, 0] rfl ?_
    refine k_goto (tgt := 102) h dX6_keep_134 rfl ?_
    refine k_sub (lv' := [(0, .ref (al (oM G) 0)), (1, .int p1), (2, .int (v2 + (1 : Int32)))]) [0, 1, 2] rfl ?_
    exact lp_o hf K
noncomputable def f_X6_keep (x0 : Int32) (st : St) : Option (Int32 × St) :=
  ((f_X6_in x0 (0 : Int32) (2 : Int32) st).bind (fun q1 => (if q1.1 = 0 then (some ((-1 : Int32), q1.2)) else (if (q1.2.1 0 10) = 0 then (some ((-4 : Int32), q1.2)) else (gd (inb x0 3) (ls (sA q1.2 16 (upd (q1.2.1 16) x0.toNatClampNeg (1 : Int32))) (fun s5 => (gd (inb x0 3) (ls (sA s5 17 (upd (s5.1 17) x0.toNatClampNeg (s5.1 0 21))) (fun s7 => ((iter (fun v : Int32 × St => l_X6_keep_40 x0 v.1 v.2) fuel ((0 : Int32), s7)).bind (fun q12 => ((iter (fun v : Int32 × St => l_X6_keep_71 x0 v.1 v.2) fuel ((0 : Int32), q12.2)).bind (fun q17 => ((iter (fun v : Int32 × St => l_X6_keep_102 x0 v.1 v.2) fuel ((0 : Int32), q17.2)).bind (fun q22 => (some (q22.2.1 0 21, q22.2))))))))))))))))))
set_option maxHeartbeats 4000000 in
theorem c_X6_keep {G : GG} (l : Launch) (x0 : Int32) (st : St)  (rr : Int32) (st' : St) (hf : f_X6_keep x0 st = some (rr, st')) : MM l yX6_keep cX6_keep 3 (some .int) 1 (oM G) [.ref (al (oM G) 0), .int x0] st (some (.int rr)) st' := by
  refine mk_MM (by decide +kernel) (Nat.le_of_ble_eq_true rfl) (fun X h r => ?_)
  refine k_sub (lv' := [(0, .ref (al (oM G) 0)), (1, .int x0)]) [0, 1] rfl ?_
  unfold f_X6_keep at hf
  refine k_iload_n (pc' := 1) h dX6_keep_0 rfl rfl 1 rfl ?_
  refine k_iconst (pc' := 2) h dX6_keep_1 rfl ci_0 ?_
  refine k_iconst (pc' := 3) h dX6_keep_2 rfl ci_2 ?_
  obtain ⟨q1, hq1, hf⟩ := bd_s hf
  refine k_callS (As := [.int x0, .int (0 : Int32), .int (2 : Int32)]) (rest := []) (rv := some (.int q1.1)) (st' := q1.2) (stk' := [.int q1.1]) (pc' := 6) h dX6_keep_3 rfl ml_X6_83 wc_X6_in ws_X6_in ⟨Nat.le_of_ble_eq_true rfl, Nat.le_of_ble_eq_true rfl⟩ rfl rfl (Nat.le_of_ble_eq_true rfl) (fun l => c_X6_in l x0 (0 : Int32) (2 : Int32) st  _ _ hq1) rfl ?_
  refine k_if_ne (tgt := 11) (pc' := 9) h dX6_keep_6 rfl rfl (fun c2 => ?_) (fun c2 => ?_)
  · replace hf := if_f c2 hf
    refine k_aload_n (pc' := 12) h dX6_keep_11 rfl rfl 0 rfl ?_
    refine k_get (v := .int (q1.2.1 0 10)) (pc' := 15) h dX6_keep_12 rfl bM_mo fl_X6_135 rfl ?_
    refine k_if_ne (tgt := 21) (pc' := 18) h dX6_keep_15 rfl rfl (fun c3 => ?_) (fun c3 => ?_)
    · replace hf := if_f c3 hf
      refine k_aload_n (pc' := 22) h dX6_keep_21 rfl rfl 0 rfl ?_
      refine k_get (v := .ref (al (oM G) 16)) (pc' := 25) h dX6_keep_22 rfl bM_mo fl_X6_60 rfl ?_
      refine k_iload_n (pc' := 26) h dX6_keep_25 rfl rfl 1 rfl ?_
      refine k_iconst (pc' := 27) h dX6_keep_26 rfl ci_1 ?_
      have g4 := gd_1 hf
      replace hf := gd_2 hf
      refine k_zast (pc' := 28) h dX6_keep_27 rfl aM_16 g4 (by decide +kernel) ?_
      obtain ⟨s5, hs5, hf⟩ := ls_s hf
      refine k_st hs5 ?_
      refine k_aload_n (pc' := 29) h dX6_keep_28 rfl rfl 0 rfl ?_
      refine k_get (v := .ref (al (oM G) 17)) (pc' := 32) h dX6_keep_29 rfl bM_mo fl_X6_64 rfl ?_
      refine k_iload_n (pc' := 33) h dX6_keep_32 rfl rfl 1 rfl ?_
      refine k_aload_n (pc' := 34) h dX6_keep_33 rfl rfl 0 rfl ?_
      refine k_get (v := .int (s5.1 0 21)) (pc' := 37) h dX6_keep_34 rfl bM_mo fl_X6_138 rfl ?_
      have g6 := gd_1 hf
      replace hf := gd_2 hf
      refine k_iast (pc' := 38) h dX6_keep_37 rfl aM_17 g6 ?_
      obtain ⟨s7, hs7, hf⟩ := ls_s hf
      refine k_st hs7 ?_
      refine k_iconst (pc' := 39) h dX6_keep_38 rfl ci_0 ?_
      refine k_istore_n (lv' := [(0, .ref (al (oM G) 0)), (1, .int x0), (2, .int (0 : Int32))]) (pc' := 40) h dX6_keep_39 rfl rfl (Nat.le_of_ble_eq_true rfl) [1, 2, 0] rfl ?_
      obtain ⟨q12, hq12, hf⟩ := bd_s hf
      refine w_X6_keep_40 h x0  fuel (0 : Int32) s7 q12 hq12 ?_
      refine k_iconst (pc' := 70) h dX6_keep_69 rfl ci_0 ?_
      refine k_istore_n (lv' := [(0, .ref (al (oM G) 0)), (1, .int x0), (2, .int (0 : Int32))]) (pc' := 71) h dX6_keep_70 rfl rfl (Nat.le_of_ble_eq_true rfl) [1, 2, 0] rfl ?_
      obtain ⟨q17, hq17, hf⟩ := bd_s hf
      refine w_X6_keep_71 h x0  fuel (0 : Int32) q12.2 q17 hq17 ?_
      refine k_iconst (pc' := 101) h dX6_keep_100 rfl ci_0 ?_
      refine k_istore_n (lv' := [(0, .ref (al (oM G) 0)), (1, .int x0), (2, .int (0 : Int32))]) (pc' := 102) h dX6_keep_101 rfl rfl (Nat.le_of_ble_eq_true rfl) [1, 2, 0] rfl ?_
      obtain ⟨q22, hq22, hf⟩ := bd_s hf
      refine w_X6_keep_102 h x0  fuel (0 : Int32) q17.2 q22 hq22 ?_
      refine k_aload_n (pc' := 138) h dX6_keep_137 rfl rfl 0 rfl ?_
      refine k_get (v := .int (q22.2.1 0 21)) (pc' := 141) h dX6_keep_138 rfl bM_mo fl_X6_138 rfl ?_
      exact k_iret h r dX6_keep_141 (lf_i hf)
    · replace hf := if_t c3 hf
      refine k_bipush (pc' := 20) h dX6_keep_18 rfl cb_m4 ?_
      exact k_iret h r dX6_keep_20 (lf_i hf)
  · replace hf := if_t c2 hf
    refine k_iconst (pc' := 10) h dX6_keep_9 rfl ci_m1 ?_
    exact k_iret h r dX6_keep_10 (lf_i hf)
noncomputable def l_X6_on_38 (p1 : Int32) (v2 : Int32) (st : St) : Option ((Int32 × St) ⊕ (Int32 × St)) :=
  (if (6 : Int32) ≤ v2 then (some (.inr (v2, st))) else (gd (inb (((6 : Int32) * p1) + v2) 18) (gd (inb v2 6) (ls (sA st 11 (upd (st.1 11) v2.toNatClampNeg (st.1 18 (((6 : Int32) * p1) + v2).toNatClampNeg))) (fun s10 => (some (.inl (v2 + (1 : Int32), s10))))))))
set_option maxHeartbeats 4000000 in
theorem w_X6_on_38 {G : GG} {X : Cx} (h : Ok X (oM G) cX6_on RX6 3 (RM 1))  (p1 : Int32)  (n : Nat) (v2 : Int32) (st : St) (q : Int32 × St) (hq : iter (fun v : Int32 × St => l_X6_on_38 p1 v.1 v.2) n (v2, st) = some q) (kx : Wk X (oM G) 3 q.2 67 [(0, .ref (al (oM G) 0)), (1, .int p1), (2, .int q.1)] []) : Wk X (oM G) 3 st 38 [(0, .ref (al (oM G) 0)), (1, .int p1), (2, .int v2)] [] := by
  refine iter_rule (hd := (fun v : Int32 × St => Wk X (oM G) 3 v.2 38 [(0, .ref (al (oM G) 0)), (1, .int p1), (2, .int v.1)] [])) (ex := (fun v : Int32 × St => Wk X (oM G) 3 v.2 67 [(0, .ref (al (oM G) 0)), (1, .int p1), (2, .int v.1)] [])) ?_ n (v2, st) q hq kx
  rintro ⟨v2, st⟩ oo hbv K
  show Wk X (oM G) 3 st 38 [(0, .ref (al (oM G) 0)), (1, .int p1), (2, .int v2)] []
  have hf : l_X6_on_38 p1 v2 st = some oo := hbv
  unfold l_X6_on_38 at hf
  refine k_iload_n (pc' := 39) h dX6_on_38 rfl rfl 2 rfl ?_
  refine k_bipush (pc' := 41) h dX6_on_39 rfl cb_6 ?_
  refine k_icmp_ge (tgt := 67) (pc' := 44) h dX6_on_41 rfl rfl (fun c7 => ?_) (fun c7 => ?_)
  · replace hf := if_t c7 hf
    refine k_sub (lv' := [(0, .ref (al (oM G) 0)), (1, .int p1), (2, .int v2)]) [0, 1, 2] rfl ?_
    exact lp_o hf K
  · replace hf := if_f c7 hf
    refine k_aload_n (pc' := 45) h dX6_on_44 rfl rfl 0 rfl ?_
    refine k_get (v := .ref (al (oM G) 11)) (pc' := 48) h dX6_on_45 rfl bM_mo fl_X6_45 rfl ?_
    refine k_iload_n (pc' := 49) h dX6_on_48 rfl rfl 2 rfl ?_
    refine k_aload_n (pc' := 50) h dX6_on_49 rfl rfl 0 rfl ?_
    refine k_get (v := .ref (al (oM G) 18)) (pc' := 53) h dX6_on_50 rfl bM_mo fl_X6_67 rfl ?_
    refine k_bipush (pc' := 55) h dX6_on_53 rfl cb_6 ?_
    refine k_iload_n (pc' := 56) h dX6_on_55 rfl rfl 1 rfl ?_
    refine k_imul (pc' := 57) h dX6_on_56 rfl ?_
    refine k_iload_n (pc' := 58) h dX6_on_57 rfl rfl 2 rfl ?_
    refine k_iadd (pc' := 59) h dX6_on_58 rfl ?_
    have g8 := gd_1 hf
    replace hf := gd_2 hf
    refine k_iald (pc' := 60) h dX6_on_59 rfl aM_18 g8 ?_
    have g9 := gd_1 hf
    replace hf := gd_2 hf
    refine k_iast (pc' := 61) h dX6_on_60 rfl aM_11 g9 ?_
    obtain ⟨s10, hs10, hf⟩ := ls_s hf
    refine k_st hs10 ?_
    refine k_iinc (lv' := [(0, .ref (al (oM G) 0)), (1, .int p1), (2, .int (v2 + (1 : Int32)))]) (pc' := 64) h dX6_on_61 rfl 2 rfl (congrArg (fun z => v2 + z) ci_1) (Nat.le_of_ble_eq_true rfl) [1, 2, 0] rfl ?_
    refine k_goto (tgt := 38) h dX6_on_64 rfl ?_
    refine k_sub (lv' := [(0, .ref (al (oM G) 0)), (1, .int p1), (2, .int (v2 + (1 : Int32)))]) [0, 1, 2] rfl ?_
    exact lp_o hf K
noncomputable def l_X6_on_69 (p1 : Int32) (v2 : Int32) (st : St) : Option ((Int32 × St) ⊕ (Int32 × St)) :=
  (if (14 : Int32) ≤ v2 then (some (.inr (v2, st))) else (gd (inb (((14 : Int32) * p1) + v2) 42) (gd (inb v2 14) (ls (sA st 14 (upd (st.1 14) v2.toNatClampNeg (st.1 19 (((14 : Int32) * p1) + v2).toNatClampNeg))) (fun s15 => (some (.inl (v2 + (1 : Int32), s15))))))))
set_option maxHeartbeats 4000000 in
theorem w_X6_on_69 {G : GG} {X : Cx} (h : Ok X (oM G) cX6_on RX6 3 (RM 1))  (p1 : Int32)  (n : Nat) (v2 : Int32) (st : St) (q : Int32 × St) (hq : iter (fun v : Int32 × St => l_X6_on_69 p1 v.1 v.2) n (v2, st) = some q) (kx : Wk X (oM G) 3 q.2 98 [(0, .ref (al (oM G) 0)), (1, .int p1), (2, .int q.1)] []) : Wk X (oM G) 3 st 69 [(0, .ref (al (oM G) 0)), (1, .int p1), (2, .int v2)] [] := by
  refine iter_rule (hd := (fun v : Int32 × St => Wk X (oM G) 3 v.2 69 [(0, .ref (al (oM G) 0)), (1, .int p1), (2, .int v.1)] [])) (ex := (fun v : Int32 × St => Wk X (oM G) 3 v.2 98 [(0, .ref (al (oM G) 0)), (1, .int p1), (2, .int v.1)] [])) ?_ n (v2, st) q hq kx
  rintro ⟨v2, st⟩ oo hbv K
  show Wk X (oM G) 3 st 69 [(0, .ref (al (oM G) 0)), (1, .int p1), (2, .int v2)] []
  have hf : l_X6_on_69 p1 v2 st = some oo := hbv
  unfold l_X6_on_69 at hf
  refine k_iload_n (pc' := 70) h dX6_on_69 rfl rfl 2 rfl ?_
  refine k_bipush (pc' := 72) h dX6_on_70 rfl cb_14 ?_
  refine k_icmp_ge (tgt := 98) (pc' := 75) h dX6_on_72 rfl rfl (fun c12 => ?_) (fun c12 => ?_)
  · replace hf := if_t c12 hf
    refine k_sub (lv' := [(0, .ref (al (oM G) 0)), (1, .int p1), (2, .int v2)]) [0, 1, 2] rfl ?_
    exact lp_o hf K
  · replace hf := if_f c12 hf
    refine k_aload_n (pc' := 76) h dX6_on_75 rfl rfl 0 rfl ?_
    refine k_get (v := .ref (al (oM G) 14)) (pc' := 79) h dX6_on_76 rfl bM_mo fl_X6_54 rfl ?_
    refine k_iload_n (pc' := 80) h dX6_on_79 rfl rfl 2 rfl ?_
    refine k_aload_n (pc' := 81) h dX6_on_80 rfl rfl 0 rfl ?_
    refine k_get (v := .ref (al (oM G) 19)) (pc' := 84) h dX6_on_81 rfl bM_mo fl_X6_70 rfl ?_
    refine k_bipush (pc' := 86) h dX6_on_84 rfl cb_14 ?_
    refine k_iload_n (pc' := 87) h dX6_on_86 rfl rfl 1 rfl ?_
    refine k_imul (pc' := 88) h dX6_on_87 rfl ?_
    refine k_iload_n (pc' := 89) h dX6_on_88 rfl rfl 2 rfl ?_
    refine k_iadd (pc' := 90) h dX6_on_89 rfl ?_
    have g13 := gd_1 hf
    replace hf := gd_2 hf
    refine k_iald (pc' := 91) h dX6_on_90 rfl aM_19 g13 ?_
    have g14 := gd_1 hf
    replace hf := gd_2 hf
    refine k_iast (pc' := 92) h dX6_on_91 rfl aM_14 g14 ?_
    obtain ⟨s15, hs15, hf⟩ := ls_s hf
    refine k_st hs15 ?_
    refine k_iinc (lv' := [(0, .ref (al (oM G) 0)), (1, .int p1), (2, .int (v2 + (1 : Int32)))]) (pc' := 95) h dX6_on_92 rfl 2 rfl (congrArg (fun z => v2 + z) ci_1) (Nat.le_of_ble_eq_true rfl) [1, 2, 0] rfl ?_
    refine k_goto (tgt := 69) h dX6_on_95 rfl ?_
    refine k_sub (lv' := [(0, .ref (al (oM G) 0)), (1, .int p1), (2, .int (v2 + (1 : Int32)))]) [0, 1, 2] rfl ?_
    exact lp_o hf K
noncomputable def l_X6_on_100 (p1 : Int32) (v2 : Int32) (st : St) : Option ((Int32 × St) ⊕ (Int32 × St)) :=
  (if ((14 : Int32) * (st.1 0 21)) ≤ v2 then (some (.inr (v2, st))) else (gd (inb (((840 : Int32) * p1) + v2) 2520) (gd (inb v2 840) (ls (sA st 15 (upd (st.1 15) v2.toNatClampNeg (st.1 20 (((840 : Int32) * p1) + v2).toNatClampNeg))) (fun s20 => (some (.inl (v2 + (1 : Int32), s20))))))))
set_option maxHeartbeats 4000000 in
theorem w_X6_on_100 {G : GG} {X : Cx} (h : Ok X (oM G) cX6_on RX6 3 (RM 1))  (p1 : Int32)  (n : Nat) (v2 : Int32) (st : St) (q : Int32 × St) (hq : iter (fun v : Int32 × St => l_X6_on_100 p1 v.1 v.2) n (v2, st) = some q) (kx : Wk X (oM G) 3 q.2 135 [(0, .ref (al (oM G) 0)), (1, .int p1), (2, .int q.1)] []) : Wk X (oM G) 3 st 100 [(0, .ref (al (oM G) 0)), (1, .int p1), (2, .int v2)] [] := by
  refine iter_rule (hd := (fun v : Int32 × St => Wk X (oM G) 3 v.2 100 [(0, .ref (al (oM G) 0)), (1, .int p1), (2, .int v.1)] [])) (ex := (fun v : Int32 × St => Wk X (oM G) 3 v.2 135 [(0, .ref (al (oM G) 0)), (1, .int p1), (2, .int v.1)] [])) ?_ n (v2, st) q hq kx
  rintro ⟨v2, st⟩ oo hbv K
  show Wk X (oM G) 3 st 100 [(0, .ref (al (oM G) 0)), (1, .int p1), (2, .int v2)] []
  have hf : l_X6_on_100 p1 v2 st = some oo := hbv
  unfold l_X6_on_100 at hf
  refine k_iload_n (pc' := 101) h dX6_on_100 rfl rfl 2 rfl ?_
  refine k_bipush (pc' := 103) h dX6_on_101 rfl cb_14 ?_
  refine k_aload_n (pc' := 104) h dX6_on_103 rfl rfl 0 rfl ?_
  refine k_get (v := .int (st.1 0 21)) (pc' := 107) h dX6_on_104 rfl bM_mo fl_X6_138 rfl ?_
  refine k_imul (pc' := 108) h dX6_on_107 rfl ?_
  refine k_icmp_ge (tgt := 135) (pc' := 111) h dX6_on_108 rfl rfl (fun c17 => ?_) (fun c17 => ?_)
  · replace hf := if_t c17 hf
    refine k_sub (lv' := [(0, .ref (al (oM G) 0)), (1, .int p1), (2, .int v2)]) [0, 1, 2] rfl ?_
    exact lp_o hf K
  · replace hf := if_f c17 hf
    refine k_aload_n (pc' := 112) h dX6_on_111 rfl rfl 0 rfl ?_
    refine k_get (v := .ref (al (oM G) 15)) (pc' := 115) h dX6_on_112 rfl bM_mo fl_X6_57 rfl ?_
    refine k_iload_n (pc' := 116) h dX6_on_115 rfl rfl 2 rfl ?_
    refine k_aload_n (pc' := 117) h dX6_on_116 rfl rfl 0 rfl ?_
    refine k_get (v := .ref (al (oM G) 20)) (pc' := 120) h dX6_on_117 rfl bM_mo fl_X6_73 rfl ?_
    refine k_sipush (pc' := 123) h dX6_on_120 rfl cs_840 ?_
    refine k_iload_n (pc' := 124) h dX6_on_123 rfl rfl 1 rfl ?_
    refine k_imul (pc' := 125) h dX6_on_124 rfl ?_
    refine k_iload_n (pc' := 126) h dX6_on_125 rfl rfl 2 rfl ?_
    refine k_iadd (pc' := 127) h dX6_on_126 rfl ?_
    have g18 := gd_1 hf
    replace hf := gd_2 hf
    refine k_iald (pc' := 128) h dX6_on_127 rfl aM_20 g18 ?_
    have g19 := gd_1 hf
    replace hf := gd_2 hf
    refine k_iast (pc' := 129) h dX6_on_128 rfl aM_15 g19 ?_
    obtain ⟨s20, hs20, hf⟩ := ls_s hf
    refine k_st hs20 ?_
    refine k_iinc (lv' := [(0, .ref (al (oM G) 0)), (1, .int p1), (2, .int (v2 + (1 : Int32)))]) (pc' := 132) h dX6_on_129 rfl 2 rfl (congrArg (fun z => v2 + z) ci_1) (Nat.le_of_ble_eq_true rfl) [1, 2, 0] rfl ?_
    refine k_goto (tgt := 100) h dX6_on_132 rfl ?_
    refine k_sub (lv' := [(0, .ref (al (oM G) 0)), (1, .int p1), (2, .int (v2 + (1 : Int32)))]) [0, 1, 2] rfl ?_
    exact lp_o hf K
noncomputable def f_X6_on (x0 : Int32) (st : St) : Option (Int32 × St) :=
  ((f_X6_in x0 (0 : Int32) (2 : Int32) st).bind (fun q1 => (if q1.1 = 0 then (some ((-1 : Int32), q1.2)) else (gd (inb x0 3) (if (q1.2.1 16 x0.toNatClampNeg) = 0 then ((f_X6_meets (1 : Int32) q1.2).bind (fun q22 => (some (q22.1, q22.2)))) else (gd (inb x0 3) (ls (sA q1.2 0 (upd (q1.2.1 0) 21 (q1.2.1 17 x0.toNatClampNeg))) (fun s6 => ((iter (fun v : Int32 × St => l_X6_on_38 x0 v.1 v.2) fuel ((0 : Int32), s6)).bind (fun q11 => ((iter (fun v : Int32 × St => l_X6_on_69 x0 v.1 v.2) fuel ((0 : Int32), q11.2)).bind (fun q16 => ((iter (fun v : Int32 × St => l_X6_on_100 x0 v.1 v.2) fuel ((0 : Int32), q16.2)).bind (fun q21 => (some (q21.2.1 0 21, q21.2))))))))))))))))
set_option maxHeartbeats 4000000 in
theorem c_X6_on {G : GG} (l : Launch) (x0 : Int32) (st : St)  (rr : Int32) (st' : St) (hf : f_X6_on x0 st = some (rr, st')) : MM l yX6_on cX6_on 3 (some .int) 1 (oM G) [.ref (al (oM G) 0), .int x0] st (some (.int rr)) st' := by
  refine mk_MM (by decide +kernel) (Nat.le_of_ble_eq_true rfl) (fun X h r => ?_)
  refine k_sub (lv' := [(0, .ref (al (oM G) 0)), (1, .int x0)]) [0, 1] rfl ?_
  unfold f_X6_on at hf
  refine k_iload_n (pc' := 1) h dX6_on_0 rfl rfl 1 rfl ?_
  refine k_iconst (pc' := 2) h dX6_on_1 rfl ci_0 ?_
  refine k_iconst (pc' := 3) h dX6_on_2 rfl ci_2 ?_
  obtain ⟨q1, hq1, hf⟩ := bd_s hf
  refine k_callS (As := [.int x0, .int (0 : Int32), .int (2 : Int32)]) (rest := []) (rv := some (.int q1.1)) (st' := q1.2) (stk' := [.int q1.1]) (pc' := 6) h dX6_on_3 rfl ml_X6_83 wc_X6_in ws_X6_in ⟨Nat.le_of_ble_eq_true rfl, Nat.le_of_ble_eq_true rfl⟩ rfl rfl (Nat.le_of_ble_eq_true rfl) (fun l => c_X6_in l x0 (0 : Int32) (2 : Int32) st  _ _ hq1) rfl ?_
  refine k_if_ne (tgt := 11) (pc' := 9) h dX6_on_6 rfl rfl (fun c2 => ?_) (fun c2 => ?_)
  · replace hf := if_f c2 hf
    refine k_aload_n (pc' := 12) h dX6_on_11 rfl rfl 0 rfl ?_
    refine k_get (v := .ref (al (oM G) 16)) (pc' := 15) h dX6_on_12 rfl bM_mo fl_X6_60 rfl ?_
    refine k_iload_n (pc' := 16) h dX6_on_15 rfl rfl 1 rfl ?_
    have g3 := gd_1 hf
    replace hf := gd_2 hf
    refine k_zald (pc' := 17) h dX6_on_16 rfl aM_16 g3 ?_
    refine k_if_ne (tgt := 26) (pc' := 20) h dX6_on_17 rfl rfl (fun c4 => ?_) (fun c4 => ?_)
    · replace hf := if_f c4 hf
      refine k_aload_n (pc' := 27) h dX6_on_26 rfl rfl 0 rfl ?_
      refine k_aload_n (pc' := 28) h dX6_on_27 rfl rfl 0 rfl ?_
      refine k_get (v := .ref (al (oM G) 17)) (pc' := 31) h dX6_on_28 rfl bM_mo fl_X6_64 rfl ?_
      refine k_iload_n (pc' := 32) h dX6_on_31 rfl rfl 1 rfl ?_
      have g5 := gd_1 hf
      replace hf := gd_2 hf
      refine k_iald (pc' := 33) h dX6_on_32 rfl aM_17 g5 ?_
      refine k_put (pc' := 36) h dX6_on_33 rfl bM_mo fp_X6_138 sf_mo_21 sj_mo_21 ?_
      obtain ⟨s6, hs6, hf⟩ := ls_s hf
      refine k_st hs6 ?_
      refine k_iconst (pc' := 37) h dX6_on_36 rfl ci_0 ?_
      refine k_istore_n (lv' := [(0, .ref (al (oM G) 0)), (1, .int x0), (2, .int (0 : Int32))]) (pc' := 38) h dX6_on_37 rfl rfl (Nat.le_of_ble_eq_true rfl) [1, 2, 0] rfl ?_
      obtain ⟨q11, hq11, hf⟩ := bd_s hf
      refine w_X6_on_38 h x0  fuel (0 : Int32) s6 q11 hq11 ?_
      refine k_iconst (pc' := 68) h dX6_on_67 rfl ci_0 ?_
      refine k_istore_n (lv' := [(0, .ref (al (oM G) 0)), (1, .int x0), (2, .int (0 : Int32))]) (pc' := 69) h dX6_on_68 rfl rfl (Nat.le_of_ble_eq_true rfl) [1, 2, 0] rfl ?_
      obtain ⟨q16, hq16, hf⟩ := bd_s hf
      refine w_X6_on_69 h x0  fuel (0 : Int32) q11.2 q16 hq16 ?_
      refine k_iconst (pc' := 99) h dX6_on_98 rfl ci_0 ?_
      refine k_istore_n (lv' := [(0, .ref (al (oM G) 0)), (1, .int x0), (2, .int (0 : Int32))]) (pc' := 100) h dX6_on_99 rfl rfl (Nat.le_of_ble_eq_true rfl) [1, 2, 0] rfl ?_
      obtain ⟨q21, hq21, hf⟩ := bd_s hf
      refine w_X6_on_100 h x0  fuel (0 : Int32) q16.2 q21 hq21 ?_
      refine k_aload_n (pc' := 136) h dX6_on_135 rfl rfl 0 rfl ?_
      refine k_get (v := .int (q21.2.1 0 21)) (pc' := 139) h dX6_on_136 rfl bM_mo fl_X6_138 rfl ?_
      exact k_iret h r dX6_on_139 (lf_i hf)
    · replace hf := if_t c4 hf
      refine k_aload_n (pc' := 21) h dX6_on_20 rfl rfl 0 rfl ?_
      refine k_iconst (pc' := 22) h dX6_on_21 rfl ci_1 ?_
      obtain ⟨q22, hq22, hf⟩ := bd_s hf
      refine k_callV (As := [.int (1 : Int32)]) (rest := []) (rv := some (.int q22.1)) (st' := q22.2) (stk' := [.int q22.1]) (pc' := 25) h dX6_on_22 rfl ml_X6_97 wc_X6_meets wi_X6_meets ⟨Nat.le_of_ble_eq_true rfl, Nat.le_of_ble_eq_true rfl⟩ bM_mo rfl rfl rfl rfl (Nat.le_of_ble_eq_true rfl) (fun l => c_X6_meets l (1 : Int32) q1.2  _ _ hq22) rfl ?_
      exact k_iret h r dX6_on_25 (lf_i hf)
  · replace hf := if_t c2 hf
    refine k_iconst (pc' := 10) h dX6_on_9 rfl ci_m1 ?_
    exact k_iret h r dX6_on_10 (lf_i hf)
noncomputable def f_X6_isSign (x0 : Int32) (st : St) : Option (Int32 × St) :=
  (if x0 = (-9 : Int32) then (some ((1 : Int32), st)) else ((f_X6_in x0 (0 : Int32) (3 : Int32) st).bind (fun q2 => (if q2.1 = 0 then (some ((0 : Int32), q2.2)) else (some ((1 : Int32), q2.2))))))
set_option maxHeartbeats 4000000 in
theorem c_X6_isSign {G : GG} (l : Launch) (x0 : Int32) (st : St)  (rr : Int32) (st' : St) (hf : f_X6_isSign x0 st = some (rr, st')) : MM l yX6_isSign cX6_isSign 1 (some .boolean) 1 (oM G) [.int x0] st (some (.int rr)) st' := by
  refine mk_MM (by decide +kernel) (Nat.le_of_ble_eq_true rfl) (fun X h r => ?_)
  refine k_sub (lv' := [(0, .int x0)]) [0] rfl ?_
  unfold f_X6_isSign at hf
  refine k_iload_n (pc' := 1) h dX6_isSign_0 rfl rfl 0 rfl ?_
  refine k_bipush (pc' := 3) h dX6_isSign_1 rfl cb_m9 ?_
  refine k_icmp_eq (tgt := 15) (pc' := 6) h dX6_isSign_3 rfl rfl (fun c1 => ?_) (fun c1 => ?_)
  · replace hf := if_t c1 hf
    refine k_iconst (pc' := 16) h dX6_isSign_15 rfl ci_1 ?_
    refine k_goto (tgt := 20) h dX6_isSign_16 rfl ?_
    exact k_zret h r dX6_isSign_20 (by decide) (lf_i hf)
  · replace hf := if_f c1 hf
    refine k_iload_n (pc' := 7) h dX6_isSign_6 rfl rfl 0 rfl ?_
    refine k_iconst (pc' := 8) h dX6_isSign_7 rfl ci_0 ?_
    refine k_iconst (pc' := 9) h dX6_isSign_8 rfl ci_3 ?_
    obtain ⟨q2, hq2, hf⟩ := bd_s hf
    refine k_callS (As := [.int x0, .int (0 : Int32), .int (3 : Int32)]) (rest := []) (rv := some (.int q2.1)) (st' := q2.2) (stk' := [.int q2.1]) (pc' := 12) h dX6_isSign_9 rfl ml_X6_83 wc_X6_in ws_X6_in ⟨Nat.le_of_ble_eq_true rfl, Nat.le_of_ble_eq_true rfl⟩ rfl rfl (Nat.le_of_ble_eq_true rfl) (fun l => c_X6_in l x0 (0 : Int32) (3 : Int32) st  _ _ hq2) rfl ?_
    refine k_if_eq (tgt := 19) (pc' := 15) h dX6_isSign_12 rfl rfl (fun c3 => ?_) (fun c3 => ?_)
    · replace hf := if_t c3 hf
      refine k_iconst (pc' := 20) h dX6_isSign_19 rfl ci_0 ?_
      exact k_zret h r dX6_isSign_20 (by decide) (lf_i hf)
    · replace hf := if_f c3 hf
      refine k_iconst (pc' := 16) h dX6_isSign_15 rfl ci_1 ?_
      refine k_goto (tgt := 20) h dX6_isSign_16 rfl ?_
      exact k_zret h r dX6_isSign_20 (by decide) (lf_i hf)
noncomputable def l_X6_looksSo_5 (p1 : Int32) (p2 : Int32) (v3 : Int32) (v4 : Int32) (st : St) : Option ((Int32 × Int32 × St) ⊕ (Int32 × Int32 × St)) :=
  (if (st.1 0 10) ≤ v4 then (some (.inr (v3, v4, st))) else (if p1 = (-9 : Int32) then (if p2 = (-9 : Int32) then (if (1 : Int32) = 0 then (lw (v3 ||| (0 : Int32)) (fun y5 => (some (.inl (y5, v4 + (1 : Int32), st))))) else (lw (v3 ||| ((1 : Int32) <<< (v4 &&& 31))) (fun y6 => (some (.inl (y6, v4 + (1 : Int32), st)))))) else (gd (inb v4 6) (if (st.1 9 v4.toNatClampNeg) = p2 then (if (1 : Int32) = 0 then (lw (v3 ||| (0 : Int32)) (fun y13 => (some (.inl (y13, v4 + (1 : Int32), st))))) else (lw (v3 ||| ((1 : Int32) <<< (v4 &&& 31))) (fun y14 => (some (.inl (y14, v4 + (1 : Int32), st)))))) else (if (0 : Int32) = 0 then (lw (v3 ||| (0 : Int32)) (fun y10 => (some (.inl (y10, v4 + (1 : Int32), st))))) else (lw (v3 ||| ((1 : Int32) <<< (v4 &&& 31))) (fun y11 => (some (.inl (y11, v4 + (1 : Int32), st))))))))) else (gd (inb v4 6) (if (st.1 8 v4.toNatClampNeg) = p1 then (if p2 = (-9 : Int32) then (if (1 : Int32) = 0 then (lw (v3 ||| (0 : Int32)) (fun y22 => (some (.inl (y22, v4 + (1 : Int32), st))))) else (lw (v3 ||| ((1 : Int32) <<< (v4 &&& 31))) (fun y23 => (some (.inl (y23, v4 + (1 : Int32), st)))))) else (gd (inb v4 6) (if (st.1 9 v4.toNatClampNeg) = p2 then (if (1 : Int32) = 0 then (lw (v3 ||| (0 : Int32)) (fun y30 => (some (.inl (y30, v4 + (1 : Int32), st))))) else (lw (v3 ||| ((1 : Int32) <<< (v4 &&& 31))) (fun y31 => (some (.inl (y31, v4 + (1 : Int32), st)))))) else (if (0 : Int32) = 0 then (lw (v3 ||| (0 : Int32)) (fun y27 => (some (.inl (y27, v4 + (1 : Int32), st))))) else (lw (v3 ||| ((1 : Int32) <<< (v4 &&& 31))) (fun y28 => (some (.inl (y28, v4 + (1 : Int32), st))))))))) else (if (0 : Int32) = 0 then (lw (v3 ||| (0 : Int32)) (fun y18 => (some (.inl (y18, v4 + (1 : Int32), st))))) else (lw (v3 ||| ((1 : Int32) <<< (v4 &&& 31))) (fun y19 => (some (.inl (y19, v4 + (1 : Int32), st))))))))))
set_option maxHeartbeats 4000000 in
theorem w_X6_looksSo_5 {G : GG} {X : Cx} (h : Ok X (oM G) cX6_looksSo RX6 6 (RM 0))  (p1 : Int32) (p2 : Int32)  (n : Nat) (v3 : Int32) (v4 : Int32) (st : St) (q : Int32 × Int32 × St) (hq : iter (fun v : Int32 × Int32 × St => l_X6_looksSo_5 p1 p2 v.1 v.2.1 v.2.2) n (v3, v4, st) = some q) (kx : Wk X (oM G) 6 q.2.2 77 [(0, .ref (al (oM G) 0)), (1, .int p1), (2, .int p2), (3, .int q.1), (4, .int q.2.1)] []) : Wk X (oM G) 6 st 5 [(0, .ref (al (oM G) 0)), (1, .int p1), (2, .int p2), (3, .int v3), (4, .int v4)] [] := by
  refine iter_rule (hd := (fun v : Int32 × Int32 × St => Wk X (oM G) 6 v.2.2 5 [(0, .ref (al (oM G) 0)), (1, .int p1), (2, .int p2), (3, .int v.1), (4, .int v.2.1)] [])) (ex := (fun v : Int32 × Int32 × St => Wk X (oM G) 6 v.2.2 77 [(0, .ref (al (oM G) 0)), (1, .int p1), (2, .int p2), (3, .int v.1), (4, .int v.2.1)] [])) ?_ n (v3, v4, st) q hq kx
  rintro ⟨v3, v4, st⟩ oo hbv K
  show Wk X (oM G) 6 st 5 [(0, .ref (al (oM G) 0)), (1, .int p1), (2, .int p2), (3, .int v3), (4, .int v4)] []
  have hf : l_X6_looksSo_5 p1 p2 v3 v4 st = some oo := hbv
  unfold l_X6_looksSo_5 at hf
  refine k_iload (pc' := 7) h dX6_looksSo_5 rfl 4 rfl ?_
  refine k_aload_n (pc' := 8) h dX6_looksSo_7 rfl rfl 0 rfl ?_
  refine k_get (v := .int (st.1 0 10)) (pc' := 11) h dX6_looksSo_8 rfl bM_mo fl_X6_135 rfl ?_
  refine k_icmp_ge (tgt := 77) (pc' := 14) h dX6_looksSo_11 rfl rfl (fun c1 => ?_) (fun c1 => ?_)
  · replace hf := if_t c1 hf
    refine k_sub (lv' := [(0, .ref (al (oM G) 0)), (1, .int p1), (2, .int p2), (3, .int v3), (4, .int v4)]) [0, 1, 2, 3, 4] rfl ?_
    exact lp_o hf K
  · replace hf := if_f c1 hf
    refine k_iload_n (pc' := 15) h dX6_looksSo_14 rfl rfl 1 rfl ?_
    refine k_bipush (pc' := 17) h dX6_looksSo_15 rfl cb_m9 ?_
    refine k_icmp_eq (tgt := 31) (pc' := 20) h dX6_looksSo_17 rfl rfl (fun c2 => ?_) (fun c2 => ?_)
    · replace hf := if_t c2 hf
      refine k_iload_n (pc' := 32) h dX6_looksSo_31 rfl rfl 2 rfl ?_
      refine k_bipush (pc' := 34) h dX6_looksSo_32 rfl cb_m9 ?_
      refine k_icmp_eq (tgt := 48) (pc' := 37) h dX6_looksSo_34 rfl rfl (fun c3 => ?_) (fun c3 => ?_)
      · replace hf := if_t c3 hf
        refine k_iconst (pc' := 49) h dX6_looksSo_48 rfl ci_1 ?_
        refine k_goto (tgt := 53) h dX6_looksSo_49 rfl ?_
        refine k_istore (lv' := [(0, .ref (al (oM G) 0)), (1, .int p1), (2, .int p2), (3, .int v3), (4, .int v4), (5, .int (1 : Int32))]) (pc' := 55) h dX6_looksSo_53 rfl (Nat.le_of_ble_eq_true rfl) [1, 2, 3, 4, 5, 0] rfl ?_
        refine k_iload_n (pc' := 56) h dX6_looksSo_55 rfl rfl 3 rfl ?_
        refine k_iload (pc' := 58) h dX6_looksSo_56 rfl 5 rfl ?_
        refine k_if_eq (tgt := 68) (pc' := 61) h dX6_looksSo_58 rfl rfl (fun c4 => ?_) (fun c4 => ?_)
        · replace hf := if_t c4 hf
          refine k_iconst (pc' := 69) h dX6_looksSo_68 rfl ci_0 ?_
          refine k_ior (pc' := 70) h dX6_looksSo_69 rfl ?_
          obtain ⟨y5, hy5, hf⟩ := lw_s hf
          refine k_eqi hy5 ?_
          refine k_istore_n (lv' := [(0, .ref (al (oM G) 0)), (1, .int p1), (2, .int p2), (3, .int y5), (4, .int v4), (5, .int (1 : Int32))]) (pc' := 71) h dX6_looksSo_70 rfl rfl (Nat.le_of_ble_eq_true rfl) [1, 2, 3, 0, 4, 5] rfl ?_
          refine k_iinc (lv' := [(0, .ref (al (oM G) 0)), (1, .int p1), (2, .int p2), (3, .int y5), (4, .int (v4 + (1 : Int32))), (5, .int (1 : Int32))]) (pc' := 74) h dX6_looksSo_71 rfl 4 rfl (congrArg (fun z => v4 + z) ci_1) (Nat.le_of_ble_eq_true rfl) [1, 2, 3, 4, 0, 5] rfl ?_
          refine k_goto (tgt := 5) h dX6_looksSo_74 rfl ?_
          refine k_sub (lv' := [(0, .ref (al (oM G) 0)), (1, .int p1), (2, .int p2), (3, .int y5), (4, .int (v4 + (1 : Int32)))]) [0, 1, 2, 3, 4] rfl ?_
          exact lp_o hf K
        · replace hf := if_f c4 hf
          refine k_iconst (pc' := 62) h dX6_looksSo_61 rfl ci_1 ?_
          refine k_iload (pc' := 64) h dX6_looksSo_62 rfl 4 rfl ?_
          refine k_ishl (pc' := 65) h dX6_looksSo_64 rfl ?_
          refine k_goto (tgt := 69) h dX6_looksSo_65 rfl ?_
          refine k_ior (pc' := 70) h dX6_looksSo_69 rfl ?_
          obtain ⟨y6, hy6, hf⟩ := lw_s hf
          refine k_eqi hy6 ?_
          refine k_istore_n (lv' := [(0, .ref (al (oM G) 0)), (1, .int p1), (2, .int p2), (3, .int y6), (4, .int v4), (5, .int (1 : Int32))]) (pc' := 71) h dX6_looksSo_70 rfl rfl (Nat.le_of_ble_eq_true rfl) [1, 2, 3, 0, 4, 5] rfl ?_
          refine k_iinc (lv' := [(0, .ref (al (oM G) 0)), (1, .int p1), (2, .int p2), (3, .int y6), (4, .int (v4 + (1 : Int32))), (5, .int (1 : Int32))]) (pc' := 74) h dX6_looksSo_71 rfl 4 rfl (congrArg (fun z => v4 + z) ci_1) (Nat.le_of_ble_eq_true rfl) [1, 2, 3, 4, 0, 5] rfl ?_
          refine k_goto (tgt := 5) h dX6_looksSo_74 rfl ?_
          refine k_sub (lv' := [(0, .ref (al (oM G) 0)), (1, .int p1), (2, .int p2), (3, .int y6), (4, .int (v4 + (1 : Int32)))]) [0, 1, 2, 3, 4] rfl ?_
          exact lp_o hf K
      · replace hf := if_f c3 hf
        refine k_aload_n (pc' := 38) h dX6_looksSo_37 rfl rfl 0 rfl ?_
        refine k_get (v := .ref (al (oM G) 9)) (pc' := 41) h dX6_looksSo_38 rfl bM_mo fl_X6_39 rfl ?_
        refine k_iload (pc' := 43) h dX6_looksSo_41 rfl 4 rfl ?_
        have g7 := gd_1 hf
        replace hf := gd_2 hf
        refine k_iald (pc' := 44) h dX6_looksSo_43 rfl aM_9 g7 ?_
        refine k_iload_n (pc' := 45) h dX6_looksSo_44 rfl rfl 2 rfl ?_
        refine k_icmp_ne (tgt := 52) (pc' := 48) h dX6_looksSo_45 rfl rfl (fun c8 => ?_) (fun c8 => ?_)
        · replace hf := if_f c8 hf
          refine k_iconst (pc' := 53) h dX6_looksSo_52 rfl ci_0 ?_
          refine k_istore (lv' := [(0, .ref (al (oM G) 0)), (1, .int p1), (2, .int p2), (3, .int v3), (4, .int v4), (5, .int (0 : Int32))]) (pc' := 55) h dX6_looksSo_53 rfl (Nat.le_of_ble_eq_true rfl) [1, 2, 3, 4, 5, 0] rfl ?_
          refine k_iload_n (pc' := 56) h dX6_looksSo_55 rfl rfl 3 rfl ?_
          refine k_iload (pc' := 58) h dX6_looksSo_56 rfl 5 rfl ?_
          refine k_if_eq (tgt := 68) (pc' := 61) h dX6_looksSo_58 rfl rfl (fun c9 => ?_) (fun c9 => ?_)
          · replace hf := if_t c9 hf
            refine k_iconst (pc' := 69) h dX6_looksSo_68 rfl ci_0 ?_
            refine k_ior (pc' := 70) h dX6_looksSo_69 rfl ?_
            obtain ⟨y10, hy10, hf⟩ := lw_s hf
            refine k_eqi hy10 ?_
            refine k_istore_n (lv' := [(0, .ref (al (oM G) 0)), (1, .int p1), (2, .int p2), (3, .int y10), (4, .int v4), (5, .int (0 : Int32))]) (pc' := 71) h dX6_looksSo_70 rfl rfl (Nat.le_of_ble_eq_true rfl) [1, 2, 3, 0, 4, 5] rfl ?_
            refine k_iinc (lv' := [(0, .ref (al (oM G) 0)), (1, .int p1), (2, .int p2), (3, .int y10), (4, .int (v4 + (1 : Int32))), (5, .int (0 : Int32))]) (pc' := 74) h dX6_looksSo_71 rfl 4 rfl (congrArg (fun z => v4 + z) ci_1) (Nat.le_of_ble_eq_true rfl) [1, 2, 3, 4, 0, 5] rfl ?_
            refine k_goto (tgt := 5) h dX6_looksSo_74 rfl ?_
            refine k_sub (lv' := [(0, .ref (al (oM G) 0)), (1, .int p1), (2, .int p2), (3, .int y10), (4, .int (v4 + (1 : Int32)))]) [0, 1, 2, 3, 4] rfl ?_
            exact lp_o hf K
          · replace hf := if_f c9 hf
            refine k_iconst (pc' := 62) h dX6_looksSo_61 rfl ci_1 ?_
            refine k_iload (pc' := 64) h dX6_looksSo_62 rfl 4 rfl ?_
            refine k_ishl (pc' := 65) h dX6_looksSo_64 rfl ?_
            refine k_goto (tgt := 69) h dX6_looksSo_65 rfl ?_
            refine k_ior (pc' := 70) h dX6_looksSo_69 rfl ?_
            obtain ⟨y11, hy11, hf⟩ := lw_s hf
            refine k_eqi hy11 ?_
            refine k_istore_n (lv' := [(0, .ref (al (oM G) 0)), (1, .int p1), (2, .int p2), (3, .int y11), (4, .int v4), (5, .int (0 : Int32))]) (pc' := 71) h dX6_looksSo_70 rfl rfl (Nat.le_of_ble_eq_true rfl) [1, 2, 3, 0, 4, 5] rfl ?_
            refine k_iinc (lv' := [(0, .ref (al (oM G) 0)), (1, .int p1), (2, .int p2), (3, .int y11), (4, .int (v4 + (1 : Int32))), (5, .int (0 : Int32))]) (pc' := 74) h dX6_looksSo_71 rfl 4 rfl (congrArg (fun z => v4 + z) ci_1) (Nat.le_of_ble_eq_true rfl) [1, 2, 3, 4, 0, 5] rfl ?_
            refine k_goto (tgt := 5) h dX6_looksSo_74 rfl ?_
            refine k_sub (lv' := [(0, .ref (al (oM G) 0)), (1, .int p1), (2, .int p2), (3, .int y11), (4, .int (v4 + (1 : Int32)))]) [0, 1, 2, 3, 4] rfl ?_
            exact lp_o hf K
        · replace hf := if_t c8 hf
          refine k_iconst (pc' := 49) h dX6_looksSo_48 rfl ci_1 ?_
          refine k_goto (tgt := 53) h dX6_looksSo_49 rfl ?_
          refine k_istore (lv' := [(0, .ref (al (oM G) 0)), (1, .int p1), (2, .int p2), (3, .int v3), (4, .int v4), (5, .int (1 : Int32))]) (pc' := 55) h dX6_looksSo_53 rfl (Nat.le_of_ble_eq_true rfl) [1, 2, 3, 4, 5, 0] rfl ?_
          refine k_iload_n (pc' := 56) h dX6_looksSo_55 rfl rfl 3 rfl ?_
          refine k_iload (pc' := 58) h dX6_looksSo_56 rfl 5 rfl ?_
          refine k_if_eq (tgt := 68) (pc' := 61) h dX6_looksSo_58 rfl rfl (fun c12 => ?_) (fun c12 => ?_)
          · replace hf := if_t c12 hf
            refine k_iconst (pc' := 69) h dX6_looksSo_68 rfl ci_0 ?_
            refine k_ior (pc' := 70) h dX6_looksSo_69 rfl ?_
            obtain ⟨y13, hy13, hf⟩ := lw_s hf
            refine k_eqi hy13 ?_
            refine k_istore_n (lv' := [(0, .ref (al (oM G) 0)), (1, .int p1), (2, .int p2), (3, .int y13), (4, .int v4), (5, .int (1 : Int32))]) (pc' := 71) h dX6_looksSo_70 rfl rfl (Nat.le_of_ble_eq_true rfl) [1, 2, 3, 0, 4, 5] rfl ?_
            refine k_iinc (lv' := [(0, .ref (al (oM G) 0)), (1, .int p1), (2, .int p2), (3, .int y13), (4, .int (v4 + (1 : Int32))), (5, .int (1 : Int32))]) (pc' := 74) h dX6_looksSo_71 rfl 4 rfl (congrArg (fun z => v4 + z) ci_1) (Nat.le_of_ble_eq_true rfl) [1, 2, 3, 4, 0, 5] rfl ?_
            refine k_goto (tgt := 5) h dX6_looksSo_74 rfl ?_
            refine k_sub (lv' := [(0, .ref (al (oM G) 0)), (1, .int p1), (2, .int p2), (3, .int y13), (4, .int (v4 + (1 : Int32)))]) [0, 1, 2, 3, 4] rfl ?_
            exact lp_o hf K
          · replace hf := if_f c12 hf
            refine k_iconst (pc' := 62) h dX6_looksSo_61 rfl ci_1 ?_
            refine k_iload (pc' := 64) h dX6_looksSo_62 rfl 4 rfl ?_
            refine k_ishl (pc' := 65) h dX6_looksSo_64 rfl ?_
            refine k_goto (tgt := 69) h dX6_looksSo_65 rfl ?_
            refine k_ior (pc' := 70) h dX6_looksSo_69 rfl ?_
            obtain ⟨y14, hy14, hf⟩ := lw_s hf
            refine k_eqi hy14 ?_
            refine k_istore_n (lv' := [(0, .ref (al (oM G) 0)), (1, .int p1), (2, .int p2), (3, .int y14), (4, .int v4), (5, .int (1 : Int32))]) (pc' := 71) h dX6_looksSo_70 rfl rfl (Nat.le_of_ble_eq_true rfl) [1, 2, 3, 0, 4, 5] rfl ?_
            refine k_iinc (lv' := [(0, .ref (al (oM G) 0)), (1, .int p1), (2, .int p2), (3, .int y14), (4, .int (v4 + (1 : Int32))), (5, .int (1 : Int32))]) (pc' := 74) h dX6_looksSo_71 rfl 4 rfl (congrArg (fun z => v4 + z) ci_1) (Nat.le_of_ble_eq_true rfl) [1, 2, 3, 4, 0, 5] rfl ?_
            refine k_goto (tgt := 5) h dX6_looksSo_74 rfl ?_
            refine k_sub (lv' := [(0, .ref (al (oM G) 0)), (1, .int p1), (2, .int p2), (3, .int y14), (4, .int (v4 + (1 : Int32)))]) [0, 1, 2, 3, 4] rfl ?_
            exact lp_o hf K
    · replace hf := if_f c2 hf
      refine k_aload_n (pc' := 21) h dX6_looksSo_20 rfl rfl 0 rfl ?_
      refine k_get (v := .ref (al (oM G) 8)) (pc' := 24) h dX6_looksSo_21 rfl bM_mo fl_X6_36 rfl ?_
      refine k_iload (pc' := 26) h dX6_looksSo_24 rfl 4 rfl ?_
      have g15 := gd_1 hf
      replace hf := gd_2 hf
      refine k_iald (pc' := 27) h dX6_looksSo_26 rfl aM_8 g15 ?_
      refine k_iload_n (pc' := 28) h dX6_looksSo_27 rfl rfl 1 rfl ?_
      refine k_icmp_ne (tgt := 52) (pc' := 31) h dX6_looksSo_28 rfl rfl (fun c16 => ?_) (fun c16 => ?_)
      · replace hf := if_f c16 hf
        refine k_iconst (pc' := 53) h dX6_looksSo_52 rfl ci_0 ?_
        refine k_istore (lv' := [(0, .ref (al (oM G) 0)), (1, .int p1), (2, .int p2), (3, .int v3), (4, .int v4), (5, .int (0 : Int32))]) (pc' := 55) h dX6_looksSo_53 rfl (Nat.le_of_ble_eq_true rfl) [1, 2, 3, 4, 5, 0] rfl ?_
        refine k_iload_n (pc' := 56) h dX6_looksSo_55 rfl rfl 3 rfl ?_
        refine k_iload (pc' := 58) h dX6_looksSo_56 rfl 5 rfl ?_
        refine k_if_eq (tgt := 68) (pc' := 61) h dX6_looksSo_58 rfl rfl (fun c17 => ?_) (fun c17 => ?_)
        · replace hf := if_t c17 hf
          refine k_iconst (pc' := 69) h dX6_looksSo_68 rfl ci_0 ?_
          refine k_ior (pc' := 70) h dX6_looksSo_69 rfl ?_
          obtain ⟨y18, hy18, hf⟩ := lw_s hf
          refine k_eqi hy18 ?_
          refine k_istore_n (lv' := [(0, .ref (al (oM G) 0)), (1, .int p1), (2, .int p2), (3, .int y18), (4, .int v4), (5, .int (0 : Int32))]) (pc' := 71) h dX6_looksSo_70 rfl rfl (Nat.le_of_ble_eq_true rfl) [1, 2, 3, 0, 4, 5] rfl ?_
          refine k_iinc (lv' := [(0, .ref (al (oM G) 0)), (1, .int p1), (2, .int p2), (3, .int y18), (4, .int (v4 + (1 : Int32))), (5, .int (0 : Int32))]) (pc' := 74) h dX6_looksSo_71 rfl 4 rfl (congrArg (fun z => v4 + z) ci_1) (Nat.le_of_ble_eq_true rfl) [1, 2, 3, 4, 0, 5] rfl ?_
          refine k_goto (tgt := 5) h dX6_looksSo_74 rfl ?_
          refine k_sub (lv' := [(0, .ref (al (oM G) 0)), (1, .int p1), (2, .int p2), (3, .int y18), (4, .int (v4 + (1 : Int32)))]) [0, 1, 2, 3, 4] rfl ?_
          exact lp_o hf K
        · replace hf := if_f c17 hf
          refine k_iconst (pc' := 62) h dX6_looksSo_61 rfl ci_1 ?_
          refine k_iload (pc' := 64) h dX6_looksSo_62 rfl 4 rfl ?_
          refine k_ishl (pc' := 65) h dX6_looksSo_64 rfl ?_
          refine k_goto (tgt := 69) h dX6_looksSo_65 rfl ?_
          refine k_ior (pc' := 70) h dX6_looksSo_69 rfl ?_
          obtain ⟨y19, hy19, hf⟩ := lw_s hf
          refine k_eqi hy19 ?_
          refine k_istore_n (lv' := [(0, .ref (al (oM G) 0)), (1, .int p1), (2, .int p2), (3, .int y19), (4, .int v4), (5, .int (0 : Int32))]) (pc' := 71) h dX6_looksSo_70 rfl rfl (Nat.le_of_ble_eq_true rfl) [1, 2, 3, 0, 4, 5] rfl ?_
          refine k_iinc (lv' := [(0, .ref (al (oM G) 0)), (1, .int p1), (2, .int p2), (3, .int y19), (4, .int (v4 + (1 : Int32))), (5, .int (0 : Int32))]) (pc' := 74) h dX6_looksSo_71 rfl 4 rfl (congrArg (fun z => v4 + z) ci_1) (Nat.le_of_ble_eq_true rfl) [1, 2, 3, 4, 0, 5] rfl ?_
          refine k_goto (tgt := 5) h dX6_looksSo_74 rfl ?_
          refine k_sub (lv' := [(0, .ref (al (oM G) 0)), (1, .int p1), (2, .int p2), (3, .int y19), (4, .int (v4 + (1 : Int32)))]) [0, 1, 2, 3, 4] rfl ?_
          exact lp_o hf K
      · replace hf := if_t c16 hf
        refine k_iload_n (pc' := 32) h dX6_looksSo_31 rfl rfl 2 rfl ?_
        refine k_bipush (pc' := 34) h dX6_looksSo_32 rfl cb_m9 ?_
        refine k_icmp_eq (tgt := 48) (pc' := 37) h dX6_looksSo_34 rfl rfl (fun c20 => ?_) (fun c20 => ?_)
        · replace hf := if_t c20 hf
          refine k_iconst (pc' := 49) h dX6_looksSo_48 rfl ci_1 ?_
          refine k_goto (tgt := 53) h dX6_looksSo_49 rfl ?_
          refine k_istore (lv' := [(0, .ref (al (oM G) 0)), (1, .int p1), (2, .int p2), (3, .int v3), (4, .int v4), (5, .int (1 : Int32))]) (pc' := 55) h dX6_looksSo_53 rfl (Nat.le_of_ble_eq_true rfl) [1, 2, 3, 4, 5, 0] rfl ?_
          refine k_iload_n (pc' := 56) h dX6_looksSo_55 rfl rfl 3 rfl ?_
          refine k_iload (pc' := 58) h dX6_looksSo_56 rfl 5 rfl ?_
          refine k_if_eq (tgt := 68) (pc' := 61) h dX6_looksSo_58 rfl rfl (fun c21 => ?_) (fun c21 => ?_)
          · replace hf := if_t c21 hf
            refine k_iconst (pc' := 69) h dX6_looksSo_68 rfl ci_0 ?_
            refine k_ior (pc' := 70) h dX6_looksSo_69 rfl ?_
            obtain ⟨y22, hy22, hf⟩ := lw_s hf
            refine k_eqi hy22 ?_
            refine k_istore_n (lv' := [(0, .ref (al (oM G) 0)), (1, .int p1), (2, .int p2), (3, .int y22), (4, .int v4), (5, .int (1 : Int32))]) (pc' := 71) h dX6_looksSo_70 rfl rfl (Nat.le_of_ble_eq_true rfl) [1, 2, 3, 0, 4, 5] rfl ?_
            refine k_iinc (lv' := [(0, .ref (al (oM G) 0)), (1, .int p1), (2, .int p2), (3, .int y22), (4, .int (v4 + (1 : Int32))), (5, .int (1 : Int32))]) (pc' := 74) h dX6_looksSo_71 rfl 4 rfl (congrArg (fun z => v4 + z) ci_1) (Nat.le_of_ble_eq_true rfl) [1, 2, 3, 4, 0, 5] rfl ?_
            refine k_goto (tgt := 5) h dX6_looksSo_74 rfl ?_
            refine k_sub (lv' := [(0, .ref (al (oM G) 0)), (1, .int p1), (2, .int p2), (3, .int y22), (4, .int (v4 + (1 : Int32)))]) [0, 1, 2, 3, 4] rfl ?_
            exact lp_o hf K
          · replace hf := if_f c21 hf
            refine k_iconst (pc' := 62) h dX6_looksSo_61 rfl ci_1 ?_
            refine k_iload (pc' := 64) h dX6_looksSo_62 rfl 4 rfl ?_
            refine k_ishl (pc' := 65) h dX6_looksSo_64 rfl ?_
            refine k_goto (tgt := 69) h dX6_looksSo_65 rfl ?_
            refine k_ior (pc' := 70) h dX6_looksSo_69 rfl ?_
            obtain ⟨y23, hy23, hf⟩ := lw_s hf
            refine k_eqi hy23 ?_
            refine k_istore_n (lv' := [(0, .ref (al (oM G) 0)), (1, .int p1), (2, .int p2), (3, .int y23), (4, .int v4), (5, .int (1 : Int32))]) (pc' := 71) h dX6_looksSo_70 rfl rfl (Nat.le_of_ble_eq_true rfl) [1, 2, 3, 0, 4, 5] rfl ?_
            refine k_iinc (lv' := [(0, .ref (al (oM G) 0)), (1, .int p1), (2, .int p2), (3, .int y23), (4, .int (v4 + (1 : Int32))), (5, .int (1 : Int32))]) (pc' := 74) h dX6_looksSo_71 rfl 4 rfl (congrArg (fun z => v4 + z) ci_1) (Nat.le_of_ble_eq_true rfl) [1, 2, 3, 4, 0, 5] rfl ?_
            refine k_goto (tgt := 5) h dX6_looksSo_74 rfl ?_
            refine k_sub (lv' := [(0, .ref (al (oM G) 0)), (1, .int p1), (2, .int p2), (3, .int y23), (4, .int (v4 + (1 : Int32)))]) [0, 1, 2, 3, 4] rfl ?_
            exact lp_o hf K
        · replace hf := if_f c20 hf
          refine k_aload_n (pc' := 38) h dX6_looksSo_37 rfl rfl 0 rfl ?_
          refine k_get (v := .ref (al (oM G) 9)) (pc' := 41) h dX6_looksSo_38 rfl bM_mo fl_X6_39 rfl ?_
          refine k_iload (pc' := 43) h dX6_looksSo_41 rfl 4 rfl ?_
          have g24 := gd_1 hf
          replace hf := gd_2 hf
          refine k_iald (pc' := 44) h dX6_looksSo_43 rfl aM_9 g24 ?_
          refine k_iload_n (pc' := 45) h dX6_looksSo_44 rfl rfl 2 rfl ?_
          refine k_icmp_ne (tgt := 52) (pc' := 48) h dX6_looksSo_45 rfl rfl (fun c25 => ?_) (fun c25 => ?_)
          · replace hf := if_f c25 hf
            refine k_iconst (pc' := 53) h dX6_looksSo_52 rfl ci_0 ?_
            refine k_istore (lv' := [(0, .ref (al (oM G) 0)), (1, .int p1), (2, .int p2), (3, .int v3), (4, .int v4), (5, .int (0 : Int32))]) (pc' := 55) h dX6_looksSo_53 rfl (Nat.le_of_ble_eq_true rfl) [1, 2, 3, 4, 5, 0] rfl ?_
            refine k_iload_n (pc' := 56) h dX6_looksSo_55 rfl rfl 3 rfl ?_
            refine k_iload (pc' := 58) h dX6_looksSo_56 rfl 5 rfl ?_
            refine k_if_eq (tgt := 68) (pc' := 61) h dX6_looksSo_58 rfl rfl (fun c26 => ?_) (fun c26 => ?_)
            · replace hf := if_t c26 hf
              refine k_iconst (pc' := 69) h dX6_looksSo_68 rfl ci_0 ?_
              refine k_ior (pc' := 70) h dX6_looksSo_69 rfl ?_
              obtain ⟨y27, hy27, hf⟩ := lw_s hf
              refine k_eqi hy27 ?_
              refine k_istore_n (lv' := [(0, .ref (al (oM G) 0)), (1, .int p1), (2, .int p2), (3, .int y27), (4, .int v4), (5, .int (0 : Int32))]) (pc' := 71) h dX6_looksSo_70 rfl rfl (Nat.le_of_ble_eq_true rfl) [1, 2, 3, 0, 4, 5] rfl ?_
              refine k_iinc (lv' := [(0, .ref (al (oM G) 0)), (1, .int p1), (2, .int p2), (3, .int y27), (4, .int (v4 + (1 : Int32))), (5, .int (0 : Int32))]) (pc' := 74) h dX6_looksSo_71 rfl 4 rfl (congrArg (fun z => v4 + z) ci_1) (Nat.le_of_ble_eq_true rfl) [1, 2, 3, 4, 0, 5] rfl ?_
              refine k_goto (tgt := 5) h dX6_looksSo_74 rfl ?_
              refine k_sub (lv' := [(0, .ref (al (oM G) 0)), (1, .int p1), (2, .int p2), (3, .int y27), (4, .int (v4 + (1 : Int32)))]) [0, 1, 2, 3, 4] rfl ?_
              exact lp_o hf K
            · replace hf := if_f c26 hf
              refine k_iconst (pc' := 62) h dX6_looksSo_61 rfl ci_1 ?_
              refine k_iload (pc' := 64) h dX6_looksSo_62 rfl 4 rfl ?_
              refine k_ishl (pc' := 65) h dX6_looksSo_64 rfl ?_
              refine k_goto (tgt := 69) h dX6_looksSo_65 rfl ?_
              refine k_ior (pc' := 70) h dX6_looksSo_69 rfl ?_
              obtain ⟨y28, hy28, hf⟩ := lw_s hf
              refine k_eqi hy28 ?_
              refine k_istore_n (lv' := [(0, .ref (al (oM G) 0)), (1, .int p1), (2, .int p2), (3, .int y28), (4, .int v4), (5, .int (0 : Int32))]) (pc' := 71) h dX6_looksSo_70 rfl rfl (Nat.le_of_ble_eq_true rfl) [1, 2, 3, 0, 4, 5] rfl ?_
              refine k_iinc (lv' := [(0, .ref (al (oM G) 0)), (1, .int p1), (2, .int p2), (3, .int y28), (4, .int (v4 + (1 : Int32))), (5, .int (0 : Int32))]) (pc' := 74) h dX6_looksSo_71 rfl 4 rfl (congrArg (fun z => v4 + z) ci_1) (Nat.le_of_ble_eq_true rfl) [1, 2, 3, 4, 0, 5] rfl ?_
              refine k_goto (tgt := 5) h dX6_looksSo_74 rfl ?_
              refine k_sub (lv' := [(0, .ref (al (oM G) 0)), (1, .int p1), (2, .int p2), (3, .int y28), (4, .int (v4 + (1 : Int32)))]) [0, 1, 2, 3, 4] rfl ?_
              exact lp_o hf K
          · replace hf := if_t c25 hf
            refine k_iconst (pc' := 49) h dX6_looksSo_48 rfl ci_1 ?_
            refine k_goto (tgt := 53) h dX6_looksSo_49 rfl ?_
            refine k_istore (lv' := [(0, .ref (al (oM G) 0)), (1, .int p1), (2, .int p2), (3, .int v3), (4, .int v4), (5, .int (1 : Int32))]) (pc' := 55) h dX6_looksSo_53 rfl (Nat.le_of_ble_eq_true rfl) [1, 2, 3, 4, 5, 0] rfl ?_
            refine k_iload_n (pc' := 56) h dX6_looksSo_55 rfl rfl 3 rfl ?_
            refine k_iload (pc' := 58) h dX6_looksSo_56 rfl 5 rfl ?_
            refine k_if_eq (tgt := 68) (pc' := 61) h dX6_looksSo_58 rfl rfl (fun c29 => ?_) (fun c29 => ?_)
            · replace hf := if_t c29 hf
              refine k_iconst (pc' := 69) h dX6_looksSo_68 rfl ci_0 ?_
              refine k_ior (pc' := 70) h dX6_looksSo_69 rfl ?_
              obtain ⟨y30, hy30, hf⟩ := lw_s hf
              refine k_eqi hy30 ?_
              refine k_istore_n (lv' := [(0, .ref (al (oM G) 0)), (1, .int p1), (2, .int p2), (3, .int y30), (4, .int v4), (5, .int (1 : Int32))]) (pc' := 71) h dX6_looksSo_70 rfl rfl (Nat.le_of_ble_eq_true rfl) [1, 2, 3, 0, 4, 5] rfl ?_
              refine k_iinc (lv' := [(0, .ref (al (oM G) 0)), (1, .int p1), (2, .int p2), (3, .int y30), (4, .int (v4 + (1 : Int32))), (5, .int (1 : Int32))]) (pc' := 74) h dX6_looksSo_71 rfl 4 rfl (congrArg (fun z => v4 + z) ci_1) (Nat.le_of_ble_eq_true rfl) [1, 2, 3, 4, 0, 5] rfl ?_
              refine k_goto (tgt := 5) h dX6_looksSo_74 rfl ?_
              refine k_sub (lv' := [(0, .ref (al (oM G) 0)), (1, .int p1), (2, .int p2), (3, .int y30), (4, .int (v4 + (1 : Int32)))]) [0, 1, 2, 3, 4] rfl ?_
              exact lp_o hf K
            · replace hf := if_f c29 hf
              refine k_iconst (pc' := 62) h dX6_looksSo_61 rfl ci_1 ?_
              refine k_iload (pc' := 64) h dX6_looksSo_62 rfl 4 rfl ?_
              refine k_ishl (pc' := 65) h dX6_looksSo_64 rfl ?_
              refine k_goto (tgt := 69) h dX6_looksSo_65 rfl ?_
              refine k_ior (pc' := 70) h dX6_looksSo_69 rfl ?_
              obtain ⟨y31, hy31, hf⟩ := lw_s hf
              refine k_eqi hy31 ?_
              refine k_istore_n (lv' := [(0, .ref (al (oM G) 0)), (1, .int p1), (2, .int p2), (3, .int y31), (4, .int v4), (5, .int (1 : Int32))]) (pc' := 71) h dX6_looksSo_70 rfl rfl (Nat.le_of_ble_eq_true rfl) [1, 2, 3, 0, 4, 5] rfl ?_
              refine k_iinc (lv' := [(0, .ref (al (oM G) 0)), (1, .int p1), (2, .int p2), (3, .int y31), (4, .int (v4 + (1 : Int32))), (5, .int (1 : Int32))]) (pc' := 74) h dX6_looksSo_71 rfl 4 rfl (congrArg (fun z => v4 + z) ci_1) (Nat.le_of_ble_eq_true rfl) [1, 2, 3, 4, 0, 5] rfl ?_
              refine k_goto (tgt := 5) h dX6_looksSo_74 rfl ?_
              refine k_sub (lv' := [(0, .ref (al (oM G) 0)), (1, .int p1), (2, .int p2), (3, .int y31), (4, .int (v4 + (1 : Int32)))]) [0, 1, 2, 3, 4] rfl ?_
              exact lp_o hf K
noncomputable def f_X6_looksSo (x0 : Int32) (x1 : Int32) (st : St) : Option (Int32 × St) :=
  ((iter (fun v : Int32 × Int32 × St => l_X6_looksSo_5 x0 x1 v.1 v.2.1 v.2.2) fuel ((0 : Int32), (0 : Int32), st)).bind (fun q32 => (some (q32.1, q32.2.2))))
set_option maxHeartbeats 4000000 in
theorem c_X6_looksSo {G : GG} (l : Launch) (x0 : Int32) (x1 : Int32) (st : St)  (rr : Int32) (st' : St) (hf : f_X6_looksSo x0 x1 st = some (rr, st')) : MM l yX6_looksSo cX6_looksSo 6 (some .int) 0 (oM G) [.ref (al (oM G) 0), .int x0, .int x1] st (some (.int rr)) st' := by
  refine mk_MM (by decide +kernel) (Nat.le_of_ble_eq_true rfl) (fun X h r => ?_)
  refine k_sub (lv' := [(0, .ref (al (oM G) 0)), (1, .int x0), (2, .int x1)]) [0, 1, 2] rfl ?_
  unfold f_X6_looksSo at hf
  refine k_iconst (pc' := 1) h dX6_looksSo_0 rfl ci_0 ?_
  refine k_istore_n (lv' := [(0, .ref (al (oM G) 0)), (1, .int x0), (2, .int x1), (3, .int (0 : Int32))]) (pc' := 2) h dX6_looksSo_1 rfl rfl (Nat.le_of_ble_eq_true rfl) [1, 2, 3, 0] rfl ?_
  refine k_iconst (pc' := 3) h dX6_looksSo_2 rfl ci_0 ?_
  refine k_istore (lv' := [(0, .ref (al (oM G) 0)), (1, .int x0), (2, .int x1), (3, .int (0 : Int32)), (4, .int (0 : Int32))]) (pc' := 5) h dX6_looksSo_3 rfl (Nat.le_of_ble_eq_true rfl) [1, 2, 3, 4, 0] rfl ?_
  obtain ⟨q32, hq32, hf⟩ := bd_s hf
  refine w_X6_looksSo_5 h x0 x1  fuel (0 : Int32) (0 : Int32) st q32 hq32 ?_
  refine k_iload_n (pc' := 78) h dX6_looksSo_77 rfl rfl 3 rfl ?_
  exact k_iret h r dX6_looksSo_78 (lf_i hf)
noncomputable def f_X6_who (x0 : Int32) (x1 : Int32) (st : St) : Option (Int32 × St) :=
  ((f_X6_isSign x0 st).bind (fun q1 => (if q1.1 = 0 then (some ((-1 : Int32), q1.2)) else ((f_X6_isSign x1 q1.2).bind (fun q3 => (if q3.1 = 0 then (some ((-1 : Int32), q3.2)) else ((f_X6_looksSo x0 x1 q3.2).bind (fun q5 => (some (q5.1, q5.2))))))))))
set_option maxHeartbeats 4000000 in
theorem c_X6_who {G : GG} (l : Launch) (x0 : Int32) (x1 : Int32) (st : St)  (rr : Int32) (st' : St) (hf : f_X6_who x0 x1 st = some (rr, st')) : MM l yX6_who cX6_who 3 (some .int) 2 (oM G) [.ref (al (oM G) 0), .int x0, .int x1] st (some (.int rr)) st' := by
  refine mk_MM (by decide +kernel) (Nat.le_of_ble_eq_true rfl) (fun X h r => ?_)
  refine k_sub (lv' := [(0, .ref (al (oM G) 0)), (1, .int x0), (2, .int x1)]) [0, 1, 2] rfl ?_
  unfold f_X6_who at hf
  refine k_iload_n (pc' := 1) h dX6_who_0 rfl rfl 1 rfl ?_
  obtain ⟨q1, hq1, hf⟩ := bd_s hf
  refine k_callS (As := [.int x0]) (rest := []) (rv := some (.int q1.1)) (st' := q1.2) (stk' := [.int q1.1]) (pc' := 4) h dX6_who_1 rfl ml_X6_196 wc_X6_isSign ws_X6_isSign ⟨Nat.le_of_ble_eq_true rfl, Nat.le_of_ble_eq_true rfl⟩ rfl rfl (Nat.le_of_ble_eq_true rfl) (fun l => c_X6_isSign l x0 st  _ _ hq1) rfl ?_
  refine k_if_eq (tgt := 23) (pc' := 7) h dX6_who_4 rfl rfl (fun c2 => ?_) (fun c2 => ?_)
  · replace hf := if_t c2 hf
    refine k_iconst (pc' := 24) h dX6_who_23 rfl ci_m1 ?_
    exact k_iret h r dX6_who_24 (lf_i hf)
  · replace hf := if_f c2 hf
    refine k_iload_n (pc' := 8) h dX6_who_7 rfl rfl 2 rfl ?_
    obtain ⟨q3, hq3, hf⟩ := bd_s hf
    refine k_callS (As := [.int x1]) (rest := []) (rv := some (.int q3.1)) (st' := q3.2) (stk' := [.int q3.1]) (pc' := 11) h dX6_who_8 rfl ml_X6_196 wc_X6_isSign ws_X6_isSign ⟨Nat.le_of_ble_eq_true rfl, Nat.le_of_ble_eq_true rfl⟩ rfl rfl (Nat.le_of_ble_eq_true rfl) (fun l => c_X6_isSign l x1 q1.2  _ _ hq3) rfl ?_
    refine k_if_eq (tgt := 23) (pc' := 14) h dX6_who_11 rfl rfl (fun c4 => ?_) (fun c4 => ?_)
    · replace hf := if_t c4 hf
      refine k_iconst (pc' := 24) h dX6_who_23 rfl ci_m1 ?_
      exact k_iret h r dX6_who_24 (lf_i hf)
    · replace hf := if_f c4 hf
      refine k_aload_n (pc' := 15) h dX6_who_14 rfl rfl 0 rfl ?_
      refine k_iload_n (pc' := 16) h dX6_who_15 rfl rfl 1 rfl ?_
      refine k_iload_n (pc' := 17) h dX6_who_16 rfl rfl 2 rfl ?_
      obtain ⟨q5, hq5, hf⟩ := bd_s hf
      refine k_callV (As := [.int x0, .int x1]) (rest := []) (rv := some (.int q5.1)) (st' := q5.2) (stk' := [.int q5.1]) (pc' := 20) h dX6_who_17 rfl ml_X6_199 wc_X6_looksSo wi_X6_looksSo ⟨Nat.le_of_ble_eq_true rfl, Nat.le_of_ble_eq_true rfl⟩ bM_mo rfl rfl rfl rfl (Nat.le_of_ble_eq_true rfl) (fun l => c_X6_looksSo l x0 x1 q3.2  _ _ hq5) rfl ?_
      refine k_goto (tgt := 24) h dX6_who_20 rfl ?_
      exact k_iret h r dX6_who_24 (lf_i hf)
noncomputable def f_X6_parts (x0 : Int32) (x1 : Int32) (st : St) : Option (Int32 × St) :=
  ((f_X6_isRegular x0 st).bind (fun q1 => (if q1.1 = 0 then (some ((-1 : Int32), q1.2)) else ((f_X6_isRegular x1 q1.2).bind (fun q3 => (if q3.1 = 0 then (some ((-1 : Int32), q3.2)) else (if x0 = x1 then (some ((-1 : Int32), q3.2)) else (gd (inb x0 6) (gd (inb x1 6) (if (q3.2.1 8 x0.toNatClampNeg) = (q3.2.1 8 x1.toNatClampNeg) then (gd (inb x0 6) (gd (inb x1 6) (if (q3.2.1 9 x0.toNatClampNeg) = (q3.2.1 9 x1.toNatClampNeg) then (some ((0 : Int32) + (0 : Int32), q3.2)) else (some ((0 : Int32) + (2 : Int32), q3.2))))) else (gd (inb x0 6) (gd (inb x1 6) (if (q3.2.1 9 x0.toNatClampNeg) = (q3.2.1 9 x1.toNatClampNeg) then (some ((1 : Int32) + (0 : Int32), q3.2)) else (some ((1 : Int32) + (2 : Int32), q3.2)))))))))))))))
set_option maxHeartbeats 4000000 in
theorem c_X6_parts {G : GG} (l : Launch) (x0 : Int32) (x1 : Int32) (st : St)  (rr : Int32) (st' : St) (hf : f_X6_parts x0 x1 st = some (rr, st')) : MM l yX6_parts cX6_parts 3 (some .int) 2 (oM G) [.ref (al (oM G) 0), .int x0, .int x1] st (some (.int rr)) st' := by
  refine mk_MM (by decide +kernel) (Nat.le_of_ble_eq_true rfl) (fun X h r => ?_)
  refine k_sub (lv' := [(0, .ref (al (oM G) 0)), (1, .int x0), (2, .int x1)]) [0, 1, 2] rfl ?_
  unfold f_X6_parts at hf
  refine k_aload_n (pc' := 1) h dX6_parts_0 rfl rfl 0 rfl ?_
  refine k_iload_n (pc' := 2) h dX6_parts_1 rfl rfl 1 rfl ?_
  obtain ⟨q1, hq1, hf⟩ := bd_s hf
  refine k_callV (As := [.int x0]) (rest := []) (rv := some (.int q1.1)) (st' := q1.2) (stk' := [.int q1.1]) (pc' := 5) h dX6_parts_2 rfl ml_X6_163 wc_X6_isRegular wi_X6_isRegular ⟨Nat.le_of_ble_eq_true rfl, Nat.le_of_ble_eq_true rfl⟩ bM_mo rfl rfl rfl rfl (Nat.le_of_ble_eq_true rfl) (fun l => c_X6_isRegular l x0 st  _ _ hq1) rfl ?_
  refine k_if_eq (tgt := 21) (pc' := 8) h dX6_parts_5 rfl rfl (fun c2 => ?_) (fun c2 => ?_)
  · replace hf := if_t c2 hf
    refine k_iconst (pc' := 22) h dX6_parts_21 rfl ci_m1 ?_
    exact k_iret h r dX6_parts_22 (lf_i hf)
  · replace hf := if_f c2 hf
    refine k_aload_n (pc' := 9) h dX6_parts_8 rfl rfl 0 rfl ?_
    refine k_iload_n (pc' := 10) h dX6_parts_9 rfl rfl 2 rfl ?_
    obtain ⟨q3, hq3, hf⟩ := bd_s hf
    refine k_callV (As := [.int x1]) (rest := []) (rv := some (.int q3.1)) (st' := q3.2) (stk' := [.int q3.1]) (pc' := 13) h dX6_parts_10 rfl ml_X6_163 wc_X6_isRegular wi_X6_isRegular ⟨Nat.le_of_ble_eq_true rfl, Nat.le_of_ble_eq_true rfl⟩ bM_mo rfl rfl rfl rfl (Nat.le_of_ble_eq_true rfl) (fun l => c_X6_isRegular l x1 q1.2  _ _ hq3) rfl ?_
    refine k_if_eq (tgt := 21) (pc' := 16) h dX6_parts_13 rfl rfl (fun c4 => ?_) (fun c4 => ?_)
    · replace hf := if_t c4 hf
      refine k_iconst (pc' := 22) h dX6_parts_21 rfl ci_m1 ?_
      exact k_iret h r dX6_parts_22 (lf_i hf)
    · replace hf := if_f c4 hf
      refine k_iload_n (pc' := 17) h dX6_parts_16 rfl rfl 1 rfl ?_
      refine k_iload_n (pc' := 18) h dX6_parts_17 rfl rfl 2 rfl ?_
      refine k_icmp_ne (tgt := 23) (pc' := 21) h dX6_parts_18 rfl rfl (fun c5 => ?_) (fun c5 => ?_)
      · replace hf := if_f c5 hf
        refine k_aload_n (pc' := 24) h dX6_parts_23 rfl rfl 0 rfl ?_
        refine k_get (v := .ref (al (oM G) 8)) (pc' := 27) h dX6_parts_24 rfl bM_mo fl_X6_36 rfl ?_
        refine k_iload_n (pc' := 28) h dX6_parts_27 rfl rfl 1 rfl ?_
        have g6 := gd_1 hf
        replace hf := gd_2 hf
        refine k_iald (pc' := 29) h dX6_parts_28 rfl aM_8 g6 ?_
        refine k_aload_n (pc' := 30) h dX6_parts_29 rfl rfl 0 rfl ?_
        refine k_get (v := .ref (al (oM G) 8)) (pc' := 33) h dX6_parts_30 rfl bM_mo fl_X6_36 rfl ?_
        refine k_iload_n (pc' := 34) h dX6_parts_33 rfl rfl 2 rfl ?_
        have g7 := gd_1 hf
        replace hf := gd_2 hf
        refine k_iald (pc' := 35) h dX6_parts_34 rfl aM_8 g7 ?_
        refine k_icmp_eq (tgt := 42) (pc' := 38) h dX6_parts_35 rfl rfl (fun c8 => ?_) (fun c8 => ?_)
        · replace hf := if_t c8 hf
          refine k_iconst (pc' := 43) h dX6_parts_42 rfl ci_0 ?_
          refine k_aload_n (pc' := 44) h dX6_parts_43 rfl rfl 0 rfl ?_
          refine k_get (v := .ref (al (oM G) 9)) (pc' := 47) h dX6_parts_44 rfl bM_mo fl_X6_39 rfl ?_
          refine k_iload_n (pc' := 48) h dX6_parts_47 rfl rfl 1 rfl ?_
          have g9 := gd_1 hf
          replace hf := gd_2 hf
          refine k_iald (pc' := 49) h dX6_parts_48 rfl aM_9 g9 ?_
          refine k_aload_n (pc' := 50) h dX6_parts_49 rfl rfl 0 rfl ?_
          refine k_get (v := .ref (al (oM G) 9)) (pc' := 53) h dX6_parts_50 rfl bM_mo fl_X6_39 rfl ?_
          refine k_iload_n (pc' := 54) h dX6_parts_53 rfl rfl 2 rfl ?_
          have g10 := gd_1 hf
          replace hf := gd_2 hf
          refine k_iald (pc' := 55) h dX6_parts_54 rfl aM_9 g10 ?_
          refine k_icmp_eq (tgt := 62) (pc' := 58) h dX6_parts_55 rfl rfl (fun c11 => ?_) (fun c11 => ?_)
          · replace hf := if_t c11 hf
            refine k_iconst (pc' := 63) h dX6_parts_62 rfl ci_0 ?_
            refine k_iadd (pc' := 64) h dX6_parts_63 rfl ?_
            exact k_iret h r dX6_parts_64 (lf_i hf)
          · replace hf := if_f c11 hf
            refine k_iconst (pc' := 59) h dX6_parts_58 rfl ci_2 ?_
            refine k_goto (tgt := 63) h dX6_parts_59 rfl ?_
            refine k_iadd (pc' := 64) h dX6_parts_63 rfl ?_
            exact k_iret h r dX6_parts_64 (lf_i hf)
        · replace hf := if_f c8 hf
          refine k_iconst (pc' := 39) h dX6_parts_38 rfl ci_1 ?_
          refine k_goto (tgt := 43) h dX6_parts_39 rfl ?_
          refine k_aload_n (pc' := 44) h dX6_parts_43 rfl rfl 0 rfl ?_
          refine k_get (v := .ref (al (oM G) 9)) (pc' := 47) h dX6_parts_44 rfl bM_mo fl_X6_39 rfl ?_
          refine k_iload_n (pc' := 48) h dX6_parts_47 rfl rfl 1 rfl ?_
          have g12 := gd_1 hf
          replace hf := gd_2 hf
          refine k_iald (pc' := 49) h dX6_parts_48 rfl aM_9 g12 ?_
          refine k_aload_n (pc' := 50) h dX6_parts_49 rfl rfl 0 rfl ?_
          refine k_get (v := .ref (al (oM G) 9)) (pc' := 53) h dX6_parts_50 rfl bM_mo fl_X6_39 rfl ?_
          refine k_iload_n (pc' := 54) h dX6_parts_53 rfl rfl 2 rfl ?_
          have g13 := gd_1 hf
          replace hf := gd_2 hf
          refine k_iald (pc' := 55) h dX6_parts_54 rfl aM_9 g13 ?_
          refine k_icmp_eq (tgt := 62) (pc' := 58) h dX6_parts_55 rfl rfl (fun c14 => ?_) (fun c14 => ?_)
          · replace hf := if_t c14 hf
            refine k_iconst (pc' := 63) h dX6_parts_62 rfl ci_0 ?_
            refine k_iadd (pc' := 64) h dX6_parts_63 rfl ?_
            exact k_iret h r dX6_parts_64 (lf_i hf)
          · replace hf := if_f c14 hf
            refine k_iconst (pc' := 59) h dX6_parts_58 rfl ci_2 ?_
            refine k_goto (tgt := 63) h dX6_parts_59 rfl ?_
            refine k_iadd (pc' := 64) h dX6_parts_63 rfl ?_
            exact k_iret h r dX6_parts_64 (lf_i hf)
      · replace hf := if_t c5 hf
        refine k_iconst (pc' := 22) h dX6_parts_21 rfl ci_m1 ?_
        exact k_iret h r dX6_parts_22 (lf_i hf)
noncomputable def f_X6_wants (x0 : Int32) (x1 : Int32) (st : St) : Option (Int32 × St) :=
  ((f_X6_isRegular x0 st).bind (fun q1 => (if q1.1 = 0 then (some ((-1 : Int32), q1.2)) else ((f_X6_in x1 (0 : Int32) (999 : Int32) q1.2).bind (fun q3 => (if q3.1 = 0 then (some ((-1 : Int32), q3.2)) else ((f_X6_wantsOn x0 x1 q3.2).bind (fun q5 => (some (q5.1, q5.2))))))))))
set_option maxHeartbeats 4000000 in
theorem c_X6_wants {G : GG} (l : Launch) (x0 : Int32) (x1 : Int32) (st : St)  (rr : Int32) (st' : St) (hf : f_X6_wants x0 x1 st = some (rr, st')) : MM l yX6_wants cX6_wants 3 (some .int) 2 (oM G) [.ref (al (oM G) 0), .int x0, .int x1] st (some (.int rr)) st' := by
  refine mk_MM (by decide +kernel) (Nat.le_of_ble_eq_true rfl) (fun X h r => ?_)
  refine k_sub (lv' := [(0, .ref (al (oM G) 0)), (1, .int x0), (2, .int x1)]) [0, 1, 2] rfl ?_
  unfold f_X6_wants at hf
  refine k_aload_n (pc' := 1) h dX6_wants_0 rfl rfl 0 rfl ?_
  refine k_iload_n (pc' := 2) h dX6_wants_1 rfl rfl 1 rfl ?_
  obtain ⟨q1, hq1, hf⟩ := bd_s hf
  refine k_callV (As := [.int x0]) (rest := []) (rv := some (.int q1.1)) (st' := q1.2) (stk' := [.int q1.1]) (pc' := 5) h dX6_wants_2 rfl ml_X6_163 wc_X6_isRegular wi_X6_isRegular ⟨Nat.le_of_ble_eq_true rfl, Nat.le_of_ble_eq_true rfl⟩ bM_mo rfl rfl rfl rfl (Nat.le_of_ble_eq_true rfl) (fun l => c_X6_isRegular l x0 st  _ _ hq1) rfl ?_
  refine k_if_eq (tgt := 28) (pc' := 8) h dX6_wants_5 rfl rfl (fun c2 => ?_) (fun c2 => ?_)
  · replace hf := if_t c2 hf
    refine k_iconst (pc' := 29) h dX6_wants_28 rfl ci_m1 ?_
    exact k_iret h r dX6_wants_29 (lf_i hf)
  · replace hf := if_f c2 hf
    refine k_iload_n (pc' := 9) h dX6_wants_8 rfl rfl 2 rfl ?_
    refine k_iconst (pc' := 10) h dX6_wants_9 rfl ci_0 ?_
    refine k_sipush (pc' := 13) h dX6_wants_10 rfl cs_999 ?_
    obtain ⟨q3, hq3, hf⟩ := bd_s hf
    refine k_callS (As := [.int x1, .int (0 : Int32), .int (999 : Int32)]) (rest := []) (rv := some (.int q3.1)) (st' := q3.2) (stk' := [.int q3.1]) (pc' := 16) h dX6_wants_13 rfl ml_X6_83 wc_X6_in ws_X6_in ⟨Nat.le_of_ble_eq_true rfl, Nat.le_of_ble_eq_true rfl⟩ rfl rfl (Nat.le_of_ble_eq_true rfl) (fun l => c_X6_in l x1 (0 : Int32) (999 : Int32) q1.2  _ _ hq3) rfl ?_
    refine k_if_eq (tgt := 28) (pc' := 19) h dX6_wants_16 rfl rfl (fun c4 => ?_) (fun c4 => ?_)
    · replace hf := if_t c4 hf
      refine k_iconst (pc' := 29) h dX6_wants_28 rfl ci_m1 ?_
      exact k_iret h r dX6_wants_29 (lf_i hf)
    · replace hf := if_f c4 hf
      refine k_aload_n (pc' := 20) h dX6_wants_19 rfl rfl 0 rfl ?_
      refine k_iload_n (pc' := 21) h dX6_wants_20 rfl rfl 1 rfl ?_
      refine k_iload_n (pc' := 22) h dX6_wants_21 rfl rfl 2 rfl ?_
      obtain ⟨q5, hq5, hf⟩ := bd_s hf
      refine k_callV (As := [.int x0, .int x1]) (rest := []) (rv := some (.int q5.1)) (st' := q5.2) (stk' := [.int q5.1]) (pc' := 25) h dX6_wants_22 rfl ml_X6_148 wc_X6_wantsOn wi_X6_wantsOn ⟨Nat.le_of_ble_eq_true rfl, Nat.le_of_ble_eq_true rfl⟩ bM_mo rfl rfl rfl rfl (Nat.le_of_ble_eq_true rfl) (fun l => c_X6_wantsOn l x0 x1 q3.2  _ _ hq5) rfl ?_
      refine k_goto (tgt := 29) h dX6_wants_25 rfl ?_
      exact k_iret h r dX6_wants_29 (lf_i hf)
noncomputable def l_X6_comesOf_4 (p1 : Int32) (v2 : Int32) (v3 : Int32) (st : St) : Option ((Int32 × Int32 × St) ⊕ (Int32 × Int32 × St)) :=
  (if (st.1 0 10) ≤ v3 then (some (.inr (v2, v3, st))) else ((f_X6_has p1 v3 st).bind (fun q2 => (if q2.1 = 0 then (lw (v2 + (0 : Int32)) (fun y4 => (some (.inl (y4, v3 + (1 : Int32), q2.2))))) else (gd (inb v3 6) (lw (v2 + (q2.2.1 12 v3.toNatClampNeg)) (fun y6 => (some (.inl (y6, v3 + (1 : Int32), q2.2))))))))))
set_option maxHeartbeats 4000000 in
theorem w_X6_comesOf_4 {G : GG} {X : Cx} (h : Ok X (oM G) cX6_comesOf RX6 4 (RM 1))  (p1 : Int32)  (n : Nat) (v2 : Int32) (v3 : Int32) (st : St) (q : Int32 × Int32 × St) (hq : iter (fun v : Int32 × Int32 × St => l_X6_comesOf_4 p1 v.1 v.2.1 v.2.2) n (v2, v3, st) = some q) (kx : Wk X (oM G) 4 q.2.2 39 [(0, .ref (al (oM G) 0)), (1, .int p1), (2, .int q.1), (3, .int q.2.1)] []) : Wk X (oM G) 4 st 4 [(0, .ref (al (oM G) 0)), (1, .int p1), (2, .int v2), (3, .int v3)] [] := by
  refine iter_rule (hd := (fun v : Int32 × Int32 × St => Wk X (oM G) 4 v.2.2 4 [(0, .ref (al (oM G) 0)), (1, .int p1), (2, .int v.1), (3, .int v.2.1)] [])) (ex := (fun v : Int32 × Int32 × St => Wk X (oM G) 4 v.2.2 39 [(0, .ref (al (oM G) 0)), (1, .int p1), (2, .int v.1), (3, .int v.2.1)] [])) ?_ n (v2, v3, st) q hq kx
  rintro ⟨v2, v3, st⟩ oo hbv K
  show Wk X (oM G) 4 st 4 [(0, .ref (al (oM G) 0)), (1, .int p1), (2, .int v2), (3, .int v3)] []
  have hf : l_X6_comesOf_4 p1 v2 v3 st = some oo := hbv
  unfold l_X6_comesOf_4 at hf
  refine k_iload_n (pc' := 5) h dX6_comesOf_4 rfl rfl 3 rfl ?_
  refine k_aload_n (pc' := 6) h dX6_comesOf_5 rfl rfl 0 rfl ?_
  refine k_get (v := .int (st.1 0 10)) (pc' := 9) h dX6_comesOf_6 rfl bM_mo fl_X6_135 rfl ?_
  refine k_icmp_ge (tgt := 39) (pc' := 12) h dX6_comesOf_9 rfl rfl (fun c1 => ?_) (fun c1 => ?_)
  · replace hf := if_t c1 hf
    refine k_sub (lv' := [(0, .ref (al (oM G) 0)), (1, .int p1), (2, .int v2), (3, .int v3)]) [0, 1, 2, 3] rfl ?_
    exact lp_o hf K
  · replace hf := if_f c1 hf
    refine k_iload_n (pc' := 13) h dX6_comesOf_12 rfl rfl 2 rfl ?_
    refine k_iload_n (pc' := 14) h dX6_comesOf_13 rfl rfl 1 rfl ?_
    refine k_iload_n (pc' := 15) h dX6_comesOf_14 rfl rfl 3 rfl ?_
    obtain ⟨q2, hq2, hf⟩ := bd_s hf
    refine k_callS (As := [.int p1, .int v3]) (rest := [.int v2]) (rv := some (.int q2.1)) (st' := q2.2) (stk' := [.int q2.1, .int v2]) (pc' := 18) h dX6_comesOf_15 rfl ml_X6_202 wc_X6_has ws_X6_has ⟨Nat.le_of_ble_eq_true rfl, Nat.le_of_ble_eq_true rfl⟩ rfl rfl (Nat.le_of_ble_eq_true rfl) (fun l => c_X6_has l p1 v3 st  _ _ hq2) rfl ?_
    refine k_if_eq (tgt := 30) (pc' := 21) h dX6_comesOf_18 rfl rfl (fun c3 => ?_) (fun c3 => ?_)
    · replace hf := if_t c3 hf
      refine k_iconst (pc' := 31) h dX6_comesOf_30 rfl ci_0 ?_
      refine k_iadd (pc' := 32) h dX6_comesOf_31 rfl ?_
      obtain ⟨y4, hy4, hf⟩ := lw_s hf
      refine k_eqi hy4 ?_
      refine k_istore_n (lv' := [(0, .ref (al (oM G) 0)), (1, .int p1), (2, .int y4), (3, .int v3)]) (pc' := 33) h dX6_comesOf_32 rfl rfl (Nat.le_of_ble_eq_true rfl) [1, 2, 0, 3] rfl ?_
      refine k_iinc (lv' := [(0, .ref (al (oM G) 0)), (1, .int p1), (2, .int y4), (3, .int (v3 + (1 : Int32)))]) (pc' := 36) h dX6_comesOf_33 rfl 3 rfl (congrArg (fun z => v3 + z) ci_1) (Nat.le_of_ble_eq_true rfl) [1, 2, 3, 0] rfl ?_
      refine k_goto (tgt := 4) h dX6_comesOf_36 rfl ?_
      refine k_sub (lv' := [(0, .ref (al (oM G) 0)), (1, .int p1), (2, .int y4), (3, .int (v3 + (1 : Int32)))]) [0, 1, 2, 3] rfl ?_
      exact lp_o hf K
    · replace hf := if_f c3 hf
      refine k_aload_n (pc' := 22) h dX6_comesOf_21 rfl rfl 0 rfl ?_
      refine k_get (v := .ref (al (oM G) 12)) (pc' := 25) h dX6_comesOf_22 rfl bM_mo fl_X6_48 rfl ?_
      refine k_iload_n (pc' := 26) h dX6_comesOf_25 rfl rfl 3 rfl ?_
      have g5 := gd_1 hf
      replace hf := gd_2 hf
      refine k_iald (pc' := 27) h dX6_comesOf_26 rfl aM_12 g5 ?_
      refine k_goto (tgt := 31) h dX6_comesOf_27 rfl ?_
      refine k_iadd (pc' := 32) h dX6_comesOf_31 rfl ?_
      obtain ⟨y6, hy6, hf⟩ := lw_s hf
      refine k_eqi hy6 ?_
      refine k_istore_n (lv' := [(0, .ref (al (oM G) 0)), (1, .int p1), (2, .int y6), (3, .int v3)]) (pc' := 33) h dX6_comesOf_32 rfl rfl (Nat.le_of_ble_eq_true rfl) [1, 2, 0, 3] rfl ?_
      refine k_iinc (lv' := [(0, .ref (al (oM G) 0)), (1, .int p1), (2, .int y6), (3, .int (v3 + (1 : Int32)))]) (pc' := 36) h dX6_comesOf_33 rfl 3 rfl (congrArg (fun z => v3 + z) ci_1) (Nat.le_of_ble_eq_true rfl) [1, 2, 3, 0] rfl ?_
      refine k_goto (tgt := 4) h dX6_comesOf_36 rfl ?_
      refine k_sub (lv' := [(0, .ref (al (oM G) 0)), (1, .int p1), (2, .int y6), (3, .int (v3 + (1 : Int32)))]) [0, 1, 2, 3] rfl ?_
      exact lp_o hf K
noncomputable def f_X6_comesOf (x0 : Int32) (st : St) : Option (Int32 × St) :=
  ((iter (fun v : Int32 × Int32 × St => l_X6_comesOf_4 x0 v.1 v.2.1 v.2.2) fuel ((0 : Int32), (0 : Int32), st)).bind (fun q7 => (some (q7.1, q7.2.2))))
set_option maxHeartbeats 4000000 in
theorem c_X6_comesOf {G : GG} (l : Launch) (x0 : Int32) (st : St)  (rr : Int32) (st' : St) (hf : f_X6_comesOf x0 st = some (rr, st')) : MM l yX6_comesOf cX6_comesOf 4 (some .int) 1 (oM G) [.ref (al (oM G) 0), .int x0] st (some (.int rr)) st' := by
  refine mk_MM (by decide +kernel) (Nat.le_of_ble_eq_true rfl) (fun X h r => ?_)
  refine k_sub (lv' := [(0, .ref (al (oM G) 0)), (1, .int x0)]) [0, 1] rfl ?_
  unfold f_X6_comesOf at hf
  refine k_iconst (pc' := 1) h dX6_comesOf_0 rfl ci_0 ?_
  refine k_istore_n (lv' := [(0, .ref (al (oM G) 0)), (1, .int x0), (2, .int (0 : Int32))]) (pc' := 2) h dX6_comesOf_1 rfl rfl (Nat.le_of_ble_eq_true rfl) [1, 2, 0] rfl ?_
  refine k_iconst (pc' := 3) h dX6_comesOf_2 rfl ci_0 ?_
  refine k_istore_n (lv' := [(0, .ref (al (oM G) 0)), (1, .int x0), (2, .int (0 : Int32)), (3, .int (0 : Int32))]) (pc' := 4) h dX6_comesOf_3 rfl rfl (Nat.le_of_ble_eq_true rfl) [1, 2, 3, 0] rfl ?_
  obtain ⟨q7, hq7, hf⟩ := bd_s hf
  refine w_X6_comesOf_4 h x0  fuel (0 : Int32) (0 : Int32) st q7 hq7 ?_
  refine k_iload_n (pc' := 40) h dX6_comesOf_39 rfl rfl 2 rfl ?_
  exact k_iret h r dX6_comesOf_40 (lf_i hf)
noncomputable def l_X6_wanting_5 (p1 : Int32) (p2 : Int32) (v3 : Int32) (v4 : Int32) (st : St) : Option ((Int32 × Int32 × St) ⊕ (Int32 × Int32 × St)) :=
  (if (st.1 0 10) ≤ v4 then (some (.inr (v3, v4, st))) else ((f_X6_has p1 v4 st).bind (fun q2 => (if q2.1 = 0 then (lw (v3 ||| (0 : Int32)) (fun y4 => (some (.inl (y4, v4 + (1 : Int32), q2.2))))) else ((f_X6_wantsNow v4 q2.2).bind (fun q5 => (if q5.1 = p2 then (lw (v3 ||| ((1 : Int32) <<< (v4 &&& 31))) (fun y8 => (some (.inl (y8, v4 + (1 : Int32), q5.2))))) else (lw (v3 ||| (0 : Int32)) (fun y7 => (some (.inl (y7, v4 + (1 : Int32), q5.2))))))))))))
set_option maxHeartbeats 4000000 in
theorem w_X6_wanting_5 {G : GG} {X : Cx} (h : Ok X (oM G) cX6_wanting RX6 5 (RM 3))  (p1 : Int32) (p2 : Int32)  (n : Nat) (v3 : Int32) (v4 : Int32) (st : St) (q : Int32 × Int32 × St) (hq : iter (fun v : Int32 × Int32 × St => l_X6_wanting_5 p1 p2 v.1 v.2.1 v.2.2) n (v3, v4, st) = some q) (kx : Wk X (oM G) 5 q.2.2 50 [(0, .ref (al (oM G) 0)), (1, .int p1), (2, .int p2), (3, .int q.1), (4, .int q.2.1)] []) : Wk X (oM G) 5 st 5 [(0, .ref (al (oM G) 0)), (1, .int p1), (2, .int p2), (3, .int v3), (4, .int v4)] [] := by
  refine iter_rule (hd := (fun v : Int32 × Int32 × St => Wk X (oM G) 5 v.2.2 5 [(0, .ref (al (oM G) 0)), (1, .int p1), (2, .int p2), (3, .int v.1), (4, .int v.2.1)] [])) (ex := (fun v : Int32 × Int32 × St => Wk X (oM G) 5 v.2.2 50 [(0, .ref (al (oM G) 0)), (1, .int p1), (2, .int p2), (3, .int v.1), (4, .int v.2.1)] [])) ?_ n (v3, v4, st) q hq kx
  rintro ⟨v3, v4, st⟩ oo hbv K
  show Wk X (oM G) 5 st 5 [(0, .ref (al (oM G) 0)), (1, .int p1), (2, .int p2), (3, .int v3), (4, .int v4)] []
  have hf : l_X6_wanting_5 p1 p2 v3 v4 st = some oo := hbv
  unfold l_X6_wanting_5 at hf
  refine k_iload (pc' := 7) h dX6_wanting_5 rfl 4 rfl ?_
  refine k_aload_n (pc' := 8) h dX6_wanting_7 rfl rfl 0 rfl ?_
  refine k_get (v := .int (st.1 0 10)) (pc' := 11) h dX6_wanting_8 rfl bM_mo fl_X6_135 rfl ?_
  refine k_icmp_ge (tgt := 50) (pc' := 14) h dX6_wanting_11 rfl rfl (fun c1 => ?_) (fun c1 => ?_)
  · replace hf := if_t c1 hf
    refine k_sub (lv' := [(0, .ref (al (oM G) 0)), (1, .int p1), (2, .int p2), (3, .int v3), (4, .int v4)]) [0, 1, 2, 3, 4] rfl ?_
    exact lp_o hf K
  · replace hf := if_f c1 hf
    refine k_iload_n (pc' := 15) h dX6_wanting_14 rfl rfl 3 rfl ?_
    refine k_iload_n (pc' := 16) h dX6_wanting_15 rfl rfl 1 rfl ?_
    refine k_iload (pc' := 18) h dX6_wanting_16 rfl 4 rfl ?_
    obtain ⟨q2, hq2, hf⟩ := bd_s hf
    refine k_callS (As := [.int p1, .int v4]) (rest := [.int v3]) (rv := some (.int q2.1)) (st' := q2.2) (stk' := [.int q2.1, .int v3]) (pc' := 21) h dX6_wanting_18 rfl ml_X6_202 wc_X6_has ws_X6_has ⟨Nat.le_of_ble_eq_true rfl, Nat.le_of_ble_eq_true rfl⟩ rfl rfl (Nat.le_of_ble_eq_true rfl) (fun l => c_X6_has l p1 v4 st  _ _ hq2) rfl ?_
    refine k_if_eq (tgt := 41) (pc' := 24) h dX6_wanting_21 rfl rfl (fun c3 => ?_) (fun c3 => ?_)
    · replace hf := if_t c3 hf
      refine k_iconst (pc' := 42) h dX6_wanting_41 rfl ci_0 ?_
      refine k_ior (pc' := 43) h dX6_wanting_42 rfl ?_
      obtain ⟨y4, hy4, hf⟩ := lw_s hf
      refine k_eqi hy4 ?_
      refine k_istore_n (lv' := [(0, .ref (al (oM G) 0)), (1, .int p1), (2, .int p2), (3, .int y4), (4, .int v4)]) (pc' := 44) h dX6_wanting_43 rfl rfl (Nat.le_of_ble_eq_true rfl) [1, 2, 3, 0, 4] rfl ?_
      refine k_iinc (lv' := [(0, .ref (al (oM G) 0)), (1, .int p1), (2, .int p2), (3, .int y4), (4, .int (v4 + (1 : Int32)))]) (pc' := 47) h dX6_wanting_44 rfl 4 rfl (congrArg (fun z => v4 + z) ci_1) (Nat.le_of_ble_eq_true rfl) [1, 2, 3, 4, 0] rfl ?_
      refine k_goto (tgt := 5) h dX6_wanting_47 rfl ?_
      refine k_sub (lv' := [(0, .ref (al (oM G) 0)), (1, .int p1), (2, .int p2), (3, .int y4), (4, .int (v4 + (1 : Int32)))]) [0, 1, 2, 3, 4] rfl ?_
      exact lp_o hf K
    · replace hf := if_f c3 hf
      refine k_aload_n (pc' := 25) h dX6_wanting_24 rfl rfl 0 rfl ?_
      refine k_iload (pc' := 27) h dX6_wanting_25 rfl 4 rfl ?_
      obtain ⟨q5, hq5, hf⟩ := bd_s hf
      refine k_callV (As := [.int v4]) (rest := [.int v3]) (rv := some (.int q5.1)) (st' := q5.2) (stk' := [.int q5.1, .int v3]) (pc' := 30) h dX6_wanting_27 rfl ml_X6_157 wc_X6_wantsNow wi_X6_wantsNow ⟨Nat.le_of_ble_eq_true rfl, Nat.le_of_ble_eq_true rfl⟩ bM_mo rfl rfl rfl rfl (Nat.le_of_ble_eq_true rfl) (fun l => c_X6_wantsNow l v4 q2.2  _ _ hq5) rfl ?_
      refine k_iload_n (pc' := 31) h dX6_wanting_30 rfl rfl 2 rfl ?_
      refine k_icmp_ne (tgt := 41) (pc' := 34) h dX6_wanting_31 rfl rfl (fun c6 => ?_) (fun c6 => ?_)
      · replace hf := if_f c6 hf
        refine k_iconst (pc' := 42) h dX6_wanting_41 rfl ci_0 ?_
        refine k_ior (pc' := 43) h dX6_wanting_42 rfl ?_
        obtain ⟨y7, hy7, hf⟩ := lw_s hf
        refine k_eqi hy7 ?_
        refine k_istore_n (lv' := [(0, .ref (al (oM G) 0)), (1, .int p1), (2, .int p2), (3, .int y7), (4, .int v4)]) (pc' := 44) h dX6_wanting_43 rfl rfl (Nat.le_of_ble_eq_true rfl) [1, 2, 3, 0, 4] rfl ?_
        refine k_iinc (lv' := [(0, .ref (al (oM G) 0)), (1, .int p1), (2, .int p2), (3, .int y7), (4, .int (v4 + (1 : Int32)))]) (pc' := 47) h dX6_wanting_44 rfl 4 rfl (congrArg (fun z => v4 + z) ci_1) (Nat.le_of_ble_eq_true rfl) [1, 2, 3, 4, 0] rfl ?_
        refine k_goto (tgt := 5) h dX6_wanting_47 rfl ?_
        refine k_sub (lv' := [(0, .ref (al (oM G) 0)), (1, .int p1), (2, .int p2), (3, .int y7), (4, .int (v4 + (1 : Int32)))]) [0, 1, 2, 3, 4] rfl ?_
        exact lp_o hf K
      · replace hf := if_t c6 hf
        refine k_iconst (pc' := 35) h dX6_wanting_34 rfl ci_1 ?_
        refine k_iload (pc' := 37) h dX6_wanting_35 rfl 4 rfl ?_
        refine k_ishl (pc' := 38) h dX6_wanting_37 rfl ?_
        refine k_goto (tgt := 42) h dX6_wanting_38 rfl ?_
        refine k_ior (pc' := 43) h dX6_wanting_42 rfl ?_
        obtain ⟨y8, hy8, hf⟩ := lw_s hf
        refine k_eqi hy8 ?_
        refine k_istore_n (lv' := [(0, .ref (al (oM G) 0)), (1, .int p1), (2, .int p2), (3, .int y8), (4, .int v4)]) (pc' := 44) h dX6_wanting_43 rfl rfl (Nat.le_of_ble_eq_true rfl) [1, 2, 3, 0, 4] rfl ?_
        refine k_iinc (lv' := [(0, .ref (al (oM G) 0)), (1, .int p1), (2, .int p2), (3, .int y8), (4, .int (v4 + (1 : Int32)))]) (pc' := 47) h dX6_wanting_44 rfl 4 rfl (congrArg (fun z => v4 + z) ci_1) (Nat.le_of_ble_eq_true rfl) [1, 2, 3, 4, 0] rfl ?_
        refine k_goto (tgt := 5) h dX6_wanting_47 rfl ?_
        refine k_sub (lv' := [(0, .ref (al (oM G) 0)), (1, .int p1), (2, .int p2), (3, .int y8), (4, .int (v4 + (1 : Int32)))]) [0, 1, 2, 3, 4] rfl ?_
        exact lp_o hf K
noncomputable def f_X6_wanting (x0 : Int32) (x1 : Int32) (st : St) : Option (Int32 × St) :=
  ((iter (fun v : Int32 × Int32 × St => l_X6_wanting_5 x0 x1 v.1 v.2.1 v.2.2) fuel ((0 : Int32), (0 : Int32), st)).bind (fun q9 => (some (q9.1, q9.2.2))))
set_option maxHeartbeats 4000000 in
theorem c_X6_wanting {G : GG} (l : Launch) (x0 : Int32) (x1 : Int32) (st : St)  (rr : Int32) (st' : St) (hf : f_X6_wanting x0 x1 st = some (rr, st')) : MM l yX6_wanting cX6_wanting 5 (some .int) 3 (oM G) [.ref (al (oM G) 0), .int x0, .int x1] st (some (.int rr)) st' := by
  refine mk_MM (by decide +kernel) (Nat.le_of_ble_eq_true rfl) (fun X h r => ?_)
  refine k_sub (lv' := [(0, .ref (al (oM G) 0)), (1, .int x0), (2, .int x1)]) [0, 1, 2] rfl ?_
  unfold f_X6_wanting at hf
  refine k_iconst (pc' := 1) h dX6_wanting_0 rfl ci_0 ?_
  refine k_istore_n (lv' := [(0, .ref (al (oM G) 0)), (1, .int x0), (2, .int x1), (3, .int (0 : Int32))]) (pc' := 2) h dX6_wanting_1 rfl rfl (Nat.le_of_ble_eq_true rfl) [1, 2, 3, 0] rfl ?_
  refine k_iconst (pc' := 3) h dX6_wanting_2 rfl ci_0 ?_
  refine k_istore (lv' := [(0, .ref (al (oM G) 0)), (1, .int x0), (2, .int x1), (3, .int (0 : Int32)), (4, .int (0 : Int32))]) (pc' := 5) h dX6_wanting_3 rfl (Nat.le_of_ble_eq_true rfl) [1, 2, 3, 4, 0] rfl ?_
  obtain ⟨q9, hq9, hf⟩ := bd_s hf
  refine w_X6_wanting_5 h x0 x1  fuel (0 : Int32) (0 : Int32) st q9 hq9 ?_
  refine k_iload_n (pc' := 51) h dX6_wanting_50 rfl rfl 3 rfl ?_
  exact k_iret h r dX6_wanting_51 (lf_i hf)
noncomputable def f_X6_likely (x0 : Int32) (x1 : Int32) (x2 : Int32) (st : St) : Option (Int32 × St) :=
  ((f_X6_isSign x0 st).bind (fun q1 => (if q1.1 = 0 then (some ((-1 : Int32), q1.2)) else ((f_X6_isSign x1 q1.2).bind (fun q3 => (if q3.1 = 0 then (some ((-1 : Int32), q3.2)) else ((f_X6_isThing x2 q3.2).bind (fun q5 => (if q5.1 = 0 then (some ((-1 : Int32), q5.2)) else ((f_X6_looksSo x0 x1 q5.2).bind (fun q7 => (if q7.1 = 0 then ((f_X6_meets (4 : Int32) q7.2).bind (fun q13 => (some (q13.1, q13.2)))) else ((f_X6_wanting q7.1 x2 q7.2).bind (fun q9 => ((f_X6_comesOf q9.1 q9.2).bind (fun q10 => ((f_X6_comesOf q7.1 q10.2).bind (fun q11 => ((f_X6_fraction q10.1 q11.1 q11.2).bind (fun q12 => (some (q12.1, q12.2))))))))))))))))))))))
set_option maxHeartbeats 4000000 in
theorem c_X6_likely {G : GG} (l : Launch) (x0 : Int32) (x1 : Int32) (x2 : Int32) (st : St)  (rr : Int32) (st' : St) (hf : f_X6_likely x0 x1 x2 st = some (rr, st')) : MM l yX6_likely cX6_likely 5 (some .int) 4 (oM G) [.ref (al (oM G) 0), .int x0, .int x1, .int x2] st (some (.int rr)) st' := by
  refine mk_MM (by decide +kernel) (Nat.le_of_ble_eq_true rfl) (fun X h r => ?_)
  refine k_sub (lv' := [(0, .ref (al (oM G) 0)), (1, .int x0), (2, .int x1), (3, .int x2)]) [0, 1, 2, 3] rfl ?_
  unfold f_X6_likely at hf
  refine k_iload_n (pc' := 1) h dX6_likely_0 rfl rfl 1 rfl ?_
  obtain ⟨q1, hq1, hf⟩ := bd_s hf
  refine k_callS (As := [.int x0]) (rest := []) (rv := some (.int q1.1)) (st' := q1.2) (stk' := [.int q1.1]) (pc' := 4) h dX6_likely_1 rfl ml_X6_196 wc_X6_isSign ws_X6_isSign ⟨Nat.le_of_ble_eq_true rfl, Nat.le_of_ble_eq_true rfl⟩ rfl rfl (Nat.le_of_ble_eq_true rfl) (fun l => c_X6_isSign l x0 st  _ _ hq1) rfl ?_
  refine k_if_eq (tgt := 21) (pc' := 7) h dX6_likely_4 rfl rfl (fun c2 => ?_) (fun c2 => ?_)
  · replace hf := if_t c2 hf
    refine k_iconst (pc' := 22) h dX6_likely_21 rfl ci_m1 ?_
    exact k_iret h r dX6_likely_22 (lf_i hf)
  · replace hf := if_f c2 hf
    refine k_iload_n (pc' := 8) h dX6_likely_7 rfl rfl 2 rfl ?_
    obtain ⟨q3, hq3, hf⟩ := bd_s hf
    refine k_callS (As := [.int x1]) (rest := []) (rv := some (.int q3.1)) (st' := q3.2) (stk' := [.int q3.1]) (pc' := 11) h dX6_likely_8 rfl ml_X6_196 wc_X6_isSign ws_X6_isSign ⟨Nat.le_of_ble_eq_true rfl, Nat.le_of_ble_eq_true rfl⟩ rfl rfl (Nat.le_of_ble_eq_true rfl) (fun l => c_X6_isSign l x1 q1.2  _ _ hq3) rfl ?_
    refine k_if_eq (tgt := 21) (pc' := 14) h dX6_likely_11 rfl rfl (fun c4 => ?_) (fun c4 => ?_)
    · replace hf := if_t c4 hf
      refine k_iconst (pc' := 22) h dX6_likely_21 rfl ci_m1 ?_
      exact k_iret h r dX6_likely_22 (lf_i hf)
    · replace hf := if_f c4 hf
      refine k_iload_n (pc' := 15) h dX6_likely_14 rfl rfl 3 rfl ?_
      obtain ⟨q5, hq5, hf⟩ := bd_s hf
      refine k_callS (As := [.int x2]) (rest := []) (rv := some (.int q5.1)) (st' := q5.2) (stk' := [.int q5.1]) (pc' := 18) h dX6_likely_15 rfl ml_X6_141 wc_X6_isThing ws_X6_isThing ⟨Nat.le_of_ble_eq_true rfl, Nat.le_of_ble_eq_true rfl⟩ rfl rfl (Nat.le_of_ble_eq_true rfl) (fun l => c_X6_isThing l x2 q3.2  _ _ hq5) rfl ?_
      refine k_if_ne (tgt := 23) (pc' := 21) h dX6_likely_18 rfl rfl (fun c6 => ?_) (fun c6 => ?_)
      · replace hf := if_f c6 hf
        refine k_aload_n (pc' := 24) h dX6_likely_23 rfl rfl 0 rfl ?_
        refine k_iload_n (pc' := 25) h dX6_likely_24 rfl rfl 1 rfl ?_
        refine k_iload_n (pc' := 26) h dX6_likely_25 rfl rfl 2 rfl ?_
        obtain ⟨q7, hq7, hf⟩ := bd_s hf
        refine k_callV (As := [.int x0, .int x1]) (rest := []) (rv := some (.int q7.1)) (st' := q7.2) (stk' := [.int q7.1]) (pc' := 29) h dX6_likely_26 rfl ml_X6_199 wc_X6_looksSo wi_X6_looksSo ⟨Nat.le_of_ble_eq_true rfl, Nat.le_of_ble_eq_true rfl⟩ bM_mo rfl rfl rfl rfl (Nat.le_of_ble_eq_true rfl) (fun l => c_X6_looksSo l x0 x1 q5.2  _ _ hq7) rfl ?_
        refine k_istore (lv' := [(0, .ref (al (oM G) 0)), (1, .int x0), (2, .int x1), (3, .int x2), (4, .int q7.1)]) (pc' := 31) h dX6_likely_29 rfl (Nat.le_of_ble_eq_true rfl) [1, 2, 3, 4, 0] rfl ?_
        refine k_iload (pc' := 33) h dX6_likely_31 rfl 4 rfl ?_
        refine k_if_ne (tgt := 44) (pc' := 36) h dX6_likely_33 rfl rfl (fun c8 => ?_) (fun c8 => ?_)
        · replace hf := if_f c8 hf
          refine k_aload_n (pc' := 45) h dX6_likely_44 rfl rfl 0 rfl ?_
          refine k_aload_n (pc' := 46) h dX6_likely_45 rfl rfl 0 rfl ?_
          refine k_aload_n (pc' := 47) h dX6_likely_46 rfl rfl 0 rfl ?_
          refine k_iload (pc' := 49) h dX6_likely_47 rfl 4 rfl ?_
          refine k_iload_n (pc' := 50) h dX6_likely_49 rfl rfl 3 rfl ?_
          obtain ⟨q9, hq9, hf⟩ := bd_s hf
          refine k_callV (As := [.int q7.1, .int x2]) (rest := [.ref (al (oM G) 0), .ref (al (oM G) 0)]) (rv := some (.int q9.1)) (st' := q9.2) (stk' := [.int q9.1, .ref (al (oM G) 0), .ref (al (oM G) 0)]) (pc' := 53) h dX6_likely_50 rfl ml_X6_205 wc_X6_wanting wi_X6_wanting ⟨Nat.le_of_ble_eq_true rfl, Nat.le_of_ble_eq_true rfl⟩ bM_mo rfl rfl rfl rfl (Nat.le_of_ble_eq_true rfl) (fun l => c_X6_wanting l q7.1 x2 q7.2  _ _ hq9) rfl ?_
          obtain ⟨q10, hq10, hf⟩ := bd_s hf
          refine k_callV (As := [.int q9.1]) (rest := [.ref (al (oM G) 0)]) (rv := some (.int q10.1)) (st' := q10.2) (stk' := [.int q10.1, .ref (al (oM G) 0)]) (pc' := 56) h dX6_likely_53 rfl ml_X6_208 wc_X6_comesOf wi_X6_comesOf ⟨Nat.le_of_ble_eq_true rfl, Nat.le_of_ble_eq_true rfl⟩ bM_mo rfl rfl rfl rfl (Nat.le_of_ble_eq_true rfl) (fun l => c_X6_comesOf l q9.1 q9.2  _ _ hq10) rfl ?_
          refine k_aload_n (pc' := 57) h dX6_likely_56 rfl rfl 0 rfl ?_
          refine k_iload (pc' := 59) h dX6_likely_57 rfl 4 rfl ?_
          obtain ⟨q11, hq11, hf⟩ := bd_s hf
          refine k_callV (As := [.int q7.1]) (rest := [.int q10.1, .ref (al (oM G) 0)]) (rv := some (.int q11.1)) (st' := q11.2) (stk' := [.int q11.1, .int q10.1, .ref (al (oM G) 0)]) (pc' := 62) h dX6_likely_59 rfl ml_X6_208 wc_X6_comesOf wi_X6_comesOf ⟨Nat.le_of_ble_eq_true rfl, Nat.le_of_ble_eq_true rfl⟩ bM_mo rfl rfl rfl rfl (Nat.le_of_ble_eq_true rfl) (fun l => c_X6_comesOf l q7.1 q10.2  _ _ hq11) rfl ?_
          obtain ⟨q12, hq12, hf⟩ := bd_s hf
          refine k_callV (As := [.int q10.1, .int q11.1]) (rest := []) (rv := some (.int q12.1)) (st' := q12.2) (stk' := [.int q12.1]) (pc' := 65) h dX6_likely_62 rfl ml_X6_211 wc_X6_fraction wi_X6_fraction ⟨Nat.le_of_ble_eq_true rfl, Nat.le_of_ble_eq_true rfl⟩ bM_mo rfl rfl rfl rfl (Nat.le_of_ble_eq_true rfl) (fun l => c_X6_fraction l q10.1 q11.1 q11.2  _ _ hq12) rfl ?_
          exact k_iret h r dX6_likely_65 (lf_i hf)
        · replace hf := if_t c8 hf
          refine k_aload_n (pc' := 37) h dX6_likely_36 rfl rfl 0 rfl ?_
          refine k_iconst (pc' := 38) h dX6_likely_37 rfl ci_4 ?_
          obtain ⟨q13, hq13, hf⟩ := bd_s hf
          refine k_callV (As := [.int (4 : Int32)]) (rest := []) (rv := some (.int q13.1)) (st' := q13.2) (stk' := [.int q13.1]) (pc' := 41) h dX6_likely_38 rfl ml_X6_97 wc_X6_meets wi_X6_meets ⟨Nat.le_of_ble_eq_true rfl, Nat.le_of_ble_eq_true rfl⟩ bM_mo rfl rfl rfl rfl (Nat.le_of_ble_eq_true rfl) (fun l => c_X6_meets l (4 : Int32) q7.2  _ _ hq13) rfl ?_
          refine k_goto (tgt := 65) h dX6_likely_41 rfl ?_
          exact k_iret h r dX6_likely_65 (lf_i hf)
      · replace hf := if_t c6 hf
        refine k_iconst (pc' := 22) h dX6_likely_21 rfl ci_m1 ?_
        exact k_iret h r dX6_likely_22 (lf_i hf)
noncomputable def l_X6_takesOf_5 (p1 : Int32) (p2 : Int32) (v3 : Int32) (v4 : Int32) (st : St) : Option ((Int32 × Int32 × St) ⊕ (Int32 × Int32 × St)) :=
  (if (st.1 0 10) ≤ v4 then (some (.inr (v3, v4, st))) else ((f_X6_has p1 v4 st).bind (fun q2 => (if q2.1 = 0 then (lw (v3 + (0 : Int32)) (fun y4 => (some (.inl (y4, v4 + (1 : Int32), q2.2))))) else (gd (inb v4 6) ((f_X6_takesIn v4 p2 q2.2).bind (fun q6 => (lw (v3 + ((q2.2.1 12 v4.toNatClampNeg) * q6.1)) (fun y7 => (some (.inl (y7, v4 + (1 : Int32), q6.2))))))))))))
set_option maxHeartbeats 4000000 in
theorem w_X6_takesOf_5 {G : GG} {X : Cx} (h : Ok X (oM G) cX6_takesOf RX6 5 (RM 4))  (p1 : Int32) (p2 : Int32)  (n : Nat) (v3 : Int32) (v4 : Int32) (st : St) (q : Int32 × Int32 × St) (hq : iter (fun v : Int32 × Int32 × St => l_X6_takesOf_5 p1 p2 v.1 v.2.1 v.2.2) n (v3, v4, st) = some q) (kx : Wk X (oM G) 5 q.2.2 51 [(0, .ref (al (oM G) 0)), (1, .int p1), (2, .int p2), (3, .int q.1), (4, .int q.2.1)] []) : Wk X (oM G) 5 st 5 [(0, .ref (al (oM G) 0)), (1, .int p1), (2, .int p2), (3, .int v3), (4, .int v4)] [] := by
  refine iter_rule (hd := (fun v : Int32 × Int32 × St => Wk X (oM G) 5 v.2.2 5 [(0, .ref (al (oM G) 0)), (1, .int p1), (2, .int p2), (3, .int v.1), (4, .int v.2.1)] [])) (ex := (fun v : Int32 × Int32 × St => Wk X (oM G) 5 v.2.2 51 [(0, .ref (al (oM G) 0)), (1, .int p1), (2, .int p2), (3, .int v.1), (4, .int v.2.1)] [])) ?_ n (v3, v4, st) q hq kx
  rintro ⟨v3, v4, st⟩ oo hbv K
  show Wk X (oM G) 5 st 5 [(0, .ref (al (oM G) 0)), (1, .int p1), (2, .int p2), (3, .int v3), (4, .int v4)] []
  have hf : l_X6_takesOf_5 p1 p2 v3 v4 st = some oo := hbv
  unfold l_X6_takesOf_5 at hf
  refine k_iload (pc' := 7) h dX6_takesOf_5 rfl 4 rfl ?_
  refine k_aload_n (pc' := 8) h dX6_takesOf_7 rfl rfl 0 rfl ?_
  refine k_get (v := .int (st.1 0 10)) (pc' := 11) h dX6_takesOf_8 rfl bM_mo fl_X6_135 rfl ?_
  refine k_icmp_ge (tgt := 51) (pc' := 14) h dX6_takesOf_11 rfl rfl (fun c1 => ?_) (fun c1 => ?_)
  · replace hf := if_t c1 hf
    refine k_sub (lv' := [(0, .ref (al (oM G) 0)), (1, .int p1), (2, .int p2), (3, .int v3), (4, .int v4)]) [0, 1, 2, 3, 4] rfl ?_
    exact lp_o hf K
  · replace hf := if_f c1 hf
    refine k_iload_n (pc' := 15) h dX6_takesOf_14 rfl rfl 3 rfl ?_
    refine k_iload_n (pc' := 16) h dX6_takesOf_15 rfl rfl 1 rfl ?_
    refine k_iload (pc' := 18) h dX6_takesOf_16 rfl 4 rfl ?_
    obtain ⟨q2, hq2, hf⟩ := bd_s hf
    refine k_callS (As := [.int p1, .int v4]) (rest := [.int v3]) (rv := some (.int q2.1)) (st' := q2.2) (stk' := [.int q2.1, .int v3]) (pc' := 21) h dX6_takesOf_18 rfl ml_X6_202 wc_X6_has ws_X6_has ⟨Nat.le_of_ble_eq_true rfl, Nat.le_of_ble_eq_true rfl⟩ rfl rfl (Nat.le_of_ble_eq_true rfl) (fun l => c_X6_has l p1 v4 st  _ _ hq2) rfl ?_
    refine k_if_eq (tgt := 42) (pc' := 24) h dX6_takesOf_21 rfl rfl (fun c3 => ?_) (fun c3 => ?_)
    · replace hf := if_t c3 hf
      refine k_iconst (pc' := 43) h dX6_takesOf_42 rfl ci_0 ?_
      refine k_iadd (pc' := 44) h dX6_takesOf_43 rfl ?_
      obtain ⟨y4, hy4, hf⟩ := lw_s hf
      refine k_eqi hy4 ?_
      refine k_istore_n (lv' := [(0, .ref (al (oM G) 0)), (1, .int p1), (2, .int p2), (3, .int y4), (4, .int v4)]) (pc' := 45) h dX6_takesOf_44 rfl rfl (Nat.le_of_ble_eq_true rfl) [1, 2, 3, 0, 4] rfl ?_
      refine k_iinc (lv' := [(0, .ref (al (oM G) 0)), (1, .int p1), (2, .int p2), (3, .int y4), (4, .int (v4 + (1 : Int32)))]) (pc' := 48) h dX6_takesOf_45 rfl 4 rfl (congrArg (fun z => v4 + z) ci_1) (Nat.le_of_ble_eq_true rfl) [1, 2, 3, 4, 0] rfl ?_
      refine k_goto (tgt := 5) h dX6_takesOf_48 rfl ?_
      refine k_sub (lv' := [(0, .ref (al (oM G) 0)), (1, .int p1), (2, .int p2), (3, .int y4), (4, .int (v4 + (1 : Int32)))]) [0, 1, 2, 3, 4] rfl ?_
      exact lp_o hf K
    · replace hf := if_f c3 hf
      refine k_aload_n (pc' := 25) h dX6_takesOf_24 rfl rfl 0 rfl ?_
      refine k_get (v := .ref (al (oM G) 12)) (pc' := 28) h dX6_takesOf_25 rfl bM_mo fl_X6_48 rfl ?_
      refine k_iload (pc' := 30) h dX6_takesOf_28 rfl 4 rfl ?_
      have g5 := gd_1 hf
      replace hf := gd_2 hf
      refine k_iald (pc' := 31) h dX6_takesOf_30 rfl aM_12 g5 ?_
      refine k_aload_n (pc' := 32) h dX6_takesOf_31 rfl rfl 0 rfl ?_
      refine k_iload (pc' := 34) h dX6_takesOf_32 rfl 4 rfl ?_
      refine k_iload_n (pc' := 35) h dX6_takesOf_34 rfl rfl 2 rfl ?_
      obtain ⟨q6, hq6, hf⟩ := bd_s hf
      refine k_callV (As := [.int v4, .int p2]) (rest := [.int (q2.2.1 12 v4.toNatClampNeg), .int v3]) (rv := some (.int q6.1)) (st' := q6.2) (stk' := [.int q6.1, .int (q2.2.1 12 v4.toNatClampNeg), .int v3]) (pc' := 38) h dX6_takesOf_35 rfl ml_X6_184 wc_X6_takesIn wi_X6_takesIn ⟨Nat.le_of_ble_eq_true rfl, Nat.le_of_ble_eq_true rfl⟩ bM_mo rfl rfl rfl rfl (Nat.le_of_ble_eq_true rfl) (fun l => c_X6_takesIn l v4 p2 q2.2  _ _ hq6) rfl ?_
      refine k_imul (pc' := 39) h dX6_takesOf_38 rfl ?_
      refine k_goto (tgt := 43) h dX6_takesOf_39 rfl ?_
      refine k_iadd (pc' := 44) h dX6_takesOf_43 rfl ?_
      obtain ⟨y7, hy7, hf⟩ := lw_s hf
      refine k_eqi hy7 ?_
      refine k_istore_n (lv' := [(0, .ref (al (oM G) 0)), (1, .int p1), (2, .int p2), (3, .int y7), (4, .int v4)]) (pc' := 45) h dX6_takesOf_44 rfl rfl (Nat.le_of_ble_eq_true rfl) [1, 2, 3, 0, 4] rfl ?_
      refine k_iinc (lv' := [(0, .ref (al (oM G) 0)), (1, .int p1), (2, .int p2), (3, .int y7), (4, .int (v4 + (1 : Int32)))]) (pc' := 48) h dX6_takesOf_45 rfl 4 rfl (congrArg (fun z => v4 + z) ci_1) (Nat.le_of_ble_eq_true rfl) [1, 2, 3, 4, 0] rfl ?_
      refine k_goto (tgt := 5) h dX6_takesOf_48 rfl ?_
      refine k_sub (lv' := [(0, .ref (al (oM G) 0)), (1, .int p1), (2, .int p2), (3, .int y7), (4, .int (v4 + (1 : Int32)))]) [0, 1, 2, 3, 4] rfl ?_
      exact lp_o hf K
noncomputable def f_X6_takesOf (x0 : Int32) (x1 : Int32) (st : St) : Option (Int32 × St) :=
  ((iter (fun v : Int32 × Int32 × St => l_X6_takesOf_5 x0 x1 v.1 v.2.1 v.2.2) fuel ((0 : Int32), (0 : Int32), st)).bind (fun q8 => (some (q8.1, q8.2.2))))
set_option maxHeartbeats 4000000 in
theorem c_X6_takesOf {G : GG} (l : Launch) (x0 : Int32) (x1 : Int32) (st : St)  (rr : Int32) (st' : St) (hf : f_X6_takesOf x0 x1 st = some (rr, st')) : MM l yX6_takesOf cX6_takesOf 5 (some .int) 4 (oM G) [.ref (al (oM G) 0), .int x0, .int x1] st (some (.int rr)) st' := by
  refine mk_MM (by decide +kernel) (Nat.le_of_ble_eq_true rfl) (fun X h r => ?_)
  refine k_sub (lv' := [(0, .ref (al (oM G) 0)), (1, .int x0), (2, .int x1)]) [0, 1, 2] rfl ?_
  unfold f_X6_takesOf at hf
  refine k_iconst (pc' := 1) h dX6_takesOf_0 rfl ci_0 ?_
  refine k_istore_n (lv' := [(0, .ref (al (oM G) 0)), (1, .int x0), (2, .int x1), (3, .int (0 : Int32))]) (pc' := 2) h dX6_takesOf_1 rfl rfl (Nat.le_of_ble_eq_true rfl) [1, 2, 3, 0] rfl ?_
  refine k_iconst (pc' := 3) h dX6_takesOf_2 rfl ci_0 ?_
  refine k_istore (lv' := [(0, .ref (al (oM G) 0)), (1, .int x0), (2, .int x1), (3, .int (0 : Int32)), (4, .int (0 : Int32))]) (pc' := 5) h dX6_takesOf_3 rfl (Nat.le_of_ble_eq_true rfl) [1, 2, 3, 4, 0] rfl ?_
  obtain ⟨q8, hq8, hf⟩ := bd_s hf
  refine w_X6_takesOf_5 h x0 x1  fuel (0 : Int32) (0 : Int32) st q8 hq8 ?_
  refine k_iload_n (pc' := 52) h dX6_takesOf_51 rfl rfl 3 rfl ?_
  exact k_iret h r dX6_takesOf_52 (lf_i hf)
noncomputable def f_X6_takes (x0 : Int32) (x1 : Int32) (x2 : Int32) (st : St) : Option (Int32 × St) :=
  ((f_X6_isSign x0 st).bind (fun q1 => (if q1.1 = 0 then (some ((-1 : Int32), q1.2)) else ((f_X6_isSign x1 q1.2).bind (fun q3 => (if q3.1 = 0 then (some ((-1 : Int32), q3.2)) else ((f_X6_isLaid x2 q3.2).bind (fun q5 => (if q5.1 = 0 then (some ((-1 : Int32), q5.2)) else ((f_X6_looksSo x0 x1 q5.2).bind (fun q7 => (if q7.1 = 0 then ((f_X6_meets (4 : Int32) q7.2).bind (fun q12 => (some (q12.1, q12.2)))) else ((f_X6_takesOf q7.1 x2 q7.2).bind (fun q9 => ((f_X6_comesOf q7.1 q9.2).bind (fun q10 => ((f_X6_fraction q9.1 q10.1 q10.2).bind (fun q11 => (some (q11.1, q11.2))))))))))))))))))))
set_option maxHeartbeats 4000000 in
theorem c_X6_takes {G : GG} (l : Launch) (x0 : Int32) (x1 : Int32) (x2 : Int32) (st : St)  (rr : Int32) (st' : St) (hf : f_X6_takes x0 x1 x2 st = some (rr, st')) : MM l yX6_takes cX6_takes 5 (some .int) 5 (oM G) [.ref (al (oM G) 0), .int x0, .int x1, .int x2] st (some (.int rr)) st' := by
  refine mk_MM (by decide +kernel) (Nat.le_of_ble_eq_true rfl) (fun X h r => ?_)
  refine k_sub (lv' := [(0, .ref (al (oM G) 0)), (1, .int x0), (2, .int x1), (3, .int x2)]) [0, 1, 2, 3] rfl ?_
  unfold f_X6_takes at hf
  refine k_iload_n (pc' := 1) h dX6_takes_0 rfl rfl 1 rfl ?_
  obtain ⟨q1, hq1, hf⟩ := bd_s hf
  refine k_callS (As := [.int x0]) (rest := []) (rv := some (.int q1.1)) (st' := q1.2) (stk' := [.int q1.1]) (pc' := 4) h dX6_takes_1 rfl ml_X6_196 wc_X6_isSign ws_X6_isSign ⟨Nat.le_of_ble_eq_true rfl, Nat.le_of_ble_eq_true rfl⟩ rfl rfl (Nat.le_of_ble_eq_true rfl) (fun l => c_X6_isSign l x0 st  _ _ hq1) rfl ?_
  refine k_if_eq (tgt := 21) (pc' := 7) h dX6_takes_4 rfl rfl (fun c2 => ?_) (fun c2 => ?_)
  · replace hf := if_t c2 hf
    refine k_iconst (pc' := 22) h dX6_takes_21 rfl ci_m1 ?_
    exact k_iret h r dX6_takes_22 (lf_i hf)
  · replace hf := if_f c2 hf
    refine k_iload_n (pc' := 8) h dX6_takes_7 rfl rfl 2 rfl ?_
    obtain ⟨q3, hq3, hf⟩ := bd_s hf
    refine k_callS (As := [.int x1]) (rest := []) (rv := some (.int q3.1)) (st' := q3.2) (stk' := [.int q3.1]) (pc' := 11) h dX6_takes_8 rfl ml_X6_196 wc_X6_isSign ws_X6_isSign ⟨Nat.le_of_ble_eq_true rfl, Nat.le_of_ble_eq_true rfl⟩ rfl rfl (Nat.le_of_ble_eq_true rfl) (fun l => c_X6_isSign l x1 q1.2  _ _ hq3) rfl ?_
    refine k_if_eq (tgt := 21) (pc' := 14) h dX6_takes_11 rfl rfl (fun c4 => ?_) (fun c4 => ?_)
    · replace hf := if_t c4 hf
      refine k_iconst (pc' := 22) h dX6_takes_21 rfl ci_m1 ?_
      exact k_iret h r dX6_takes_22 (lf_i hf)
    · replace hf := if_f c4 hf
      refine k_iload_n (pc' := 15) h dX6_takes_14 rfl rfl 3 rfl ?_
      obtain ⟨q5, hq5, hf⟩ := bd_s hf
      refine k_callS (As := [.int x2]) (rest := []) (rv := some (.int q5.1)) (st' := q5.2) (stk' := [.int q5.1]) (pc' := 18) h dX6_takes_15 rfl ml_X6_190 wc_X6_isLaid ws_X6_isLaid ⟨Nat.le_of_ble_eq_true rfl, Nat.le_of_ble_eq_true rfl⟩ rfl rfl (Nat.le_of_ble_eq_true rfl) (fun l => c_X6_isLaid l x2 q3.2  _ _ hq5) rfl ?_
      refine k_if_ne (tgt := 23) (pc' := 21) h dX6_takes_18 rfl rfl (fun c6 => ?_) (fun c6 => ?_)
      · replace hf := if_f c6 hf
        refine k_aload_n (pc' := 24) h dX6_takes_23 rfl rfl 0 rfl ?_
        refine k_iload_n (pc' := 25) h dX6_takes_24 rfl rfl 1 rfl ?_
        refine k_iload_n (pc' := 26) h dX6_takes_25 rfl rfl 2 rfl ?_
        obtain ⟨q7, hq7, hf⟩ := bd_s hf
        refine k_callV (As := [.int x0, .int x1]) (rest := []) (rv := some (.int q7.1)) (st' := q7.2) (stk' := [.int q7.1]) (pc' := 29) h dX6_takes_26 rfl ml_X6_199 wc_X6_looksSo wi_X6_looksSo ⟨Nat.le_of_ble_eq_true rfl, Nat.le_of_ble_eq_true rfl⟩ bM_mo rfl rfl rfl rfl (Nat.le_of_ble_eq_true rfl) (fun l => c_X6_looksSo l x0 x1 q5.2  _ _ hq7) rfl ?_
        refine k_istore (lv' := [(0, .ref (al (oM G) 0)), (1, .int x0), (2, .int x1), (3, .int x2), (4, .int q7.1)]) (pc' := 31) h dX6_takes_29 rfl (Nat.le_of_ble_eq_true rfl) [1, 2, 3, 4, 0] rfl ?_
        refine k_iload (pc' := 33) h dX6_takes_31 rfl 4 rfl ?_
        refine k_if_ne (tgt := 44) (pc' := 36) h dX6_takes_33 rfl rfl (fun c8 => ?_) (fun c8 => ?_)
        · replace hf := if_f c8 hf
          refine k_aload_n (pc' := 45) h dX6_takes_44 rfl rfl 0 rfl ?_
          refine k_aload_n (pc' := 46) h dX6_takes_45 rfl rfl 0 rfl ?_
          refine k_iload (pc' := 48) h dX6_takes_46 rfl 4 rfl ?_
          refine k_iload_n (pc' := 49) h dX6_takes_48 rfl rfl 3 rfl ?_
          obtain ⟨q9, hq9, hf⟩ := bd_s hf
          refine k_callV (As := [.int q7.1, .int x2]) (rest := [.ref (al (oM G) 0)]) (rv := some (.int q9.1)) (st' := q9.2) (stk' := [.int q9.1, .ref (al (oM G) 0)]) (pc' := 52) h dX6_takes_49 rfl ml_X6_214 wc_X6_takesOf wi_X6_takesOf ⟨Nat.le_of_ble_eq_true rfl, Nat.le_of_ble_eq_true rfl⟩ bM_mo rfl rfl rfl rfl (Nat.le_of_ble_eq_true rfl) (fun l => c_X6_takesOf l q7.1 x2 q7.2  _ _ hq9) rfl ?_
          refine k_aload_n (pc' := 53) h dX6_takes_52 rfl rfl 0 rfl ?_
          refine k_iload (pc' := 55) h dX6_takes_53 rfl 4 rfl ?_
          obtain ⟨q10, hq10, hf⟩ := bd_s hf
          refine k_callV (As := [.int q7.1]) (rest := [.int q9.1, .ref (al (oM G) 0)]) (rv := some (.int q10.1)) (st' := q10.2) (stk' := [.int q10.1, .int q9.1, .ref (al (oM G) 0)]) (pc' := 58) h dX6_takes_55 rfl ml_X6_208 wc_X6_comesOf wi_X6_comesOf ⟨Nat.le_of_ble_eq_true rfl, Nat.le_of_ble_eq_true rfl⟩ bM_mo rfl rfl rfl rfl (Nat.le_of_ble_eq_true rfl) (fun l => c_X6_comesOf l q7.1 q9.2  _ _ hq10) rfl ?_
          obtain ⟨q11, hq11, hf⟩ := bd_s hf
          refine k_callV (As := [.int q9.1, .int q10.1]) (rest := []) (rv := some (.int q11.1)) (st' := q11.2) (stk' := [.int q11.1]) (pc' := 61) h dX6_takes_58 rfl ml_X6_211 wc_X6_fraction wi_X6_fraction ⟨Nat.le_of_ble_eq_true rfl, Nat.le_of_ble_eq_true rfl⟩ bM_mo rfl rfl rfl rfl (Nat.le_of_ble_eq_true rfl) (fun l => c_X6_fraction l q9.1 q10.1 q10.2  _ _ hq11) rfl ?_
          exact k_iret h r dX6_takes_61 (lf_i hf)
        · replace hf := if_t c8 hf
          refine k_aload_n (pc' := 37) h dX6_takes_36 rfl rfl 0 rfl ?_
          refine k_iconst (pc' := 38) h dX6_takes_37 rfl ci_4 ?_
          obtain ⟨q12, hq12, hf⟩ := bd_s hf
          refine k_callV (As := [.int (4 : Int32)]) (rest := []) (rv := some (.int q12.1)) (st' := q12.2) (stk' := [.int q12.1]) (pc' := 41) h dX6_takes_38 rfl ml_X6_97 wc_X6_meets wi_X6_meets ⟨Nat.le_of_ble_eq_true rfl, Nat.le_of_ble_eq_true rfl⟩ bM_mo rfl rfl rfl rfl (Nat.le_of_ble_eq_true rfl) (fun l => c_X6_meets l (4 : Int32) q7.2  _ _ hq12) rfl ?_
          refine k_goto (tgt := 61) h dX6_takes_41 rfl ?_
          exact k_iret h r dX6_takes_61 (lf_i hf)
      · replace hf := if_t c6 hf
        refine k_iconst (pc' := 22) h dX6_takes_21 rfl ci_m1 ?_
        exact k_iret h r dX6_takes_22 (lf_i hf)
