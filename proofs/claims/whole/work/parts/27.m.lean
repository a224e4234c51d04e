noncomputable def l_X6_quickestOf_5 (p1 : Int32) (v2 : Int32) (v3 : Int32) (st : St) : Option ((Int32 × Int32 × St) ⊕ (Int32 × Int32 × St)) :=
  (if (6 : Int32) ≤ v3 then (some (.inr (v2, v3, st))) else ((f_X6_takesOf p1 v3 st).bind (fun q2 => ((f_X6_takesOf p1 v2 q2.2).bind (fun q3 => (if q3.1 ≤ q2.1 then (some (.inl (v2, v3 + (1 : Int32), q3.2))) else (some (.inl (v3, v3 + (1 : Int32), q3.2)))))))))
set_option maxHeartbeats 4000000 in
theorem w_X6_quickestOf_5 {G : GG} {X : Cx} (h : Ok X (oM G) cX6_quickestOf RX6 4 (RM 5))  (p1 : Int32)  (n : Nat) (v2 : Int32) (v3 : Int32) (st : St) (q : Int32 × Int32 × St) (hq : iter (fun v : Int32 × Int32 × St => l_X6_quickestOf_5 p1 v.1 v.2.1 v.2.2) n (v2, v3, st) = some q) (kx : Wk X (oM G) 4 q.2.2 38 [(0, .ref (al (oM G) 0)), (1, .int p1), (2, .int q.1), (3, .int q.2.1)] []) : Wk X (oM G) 4 st 5 [(0, .ref (al (oM G) 0)), (1, .int p1), (2, .int v2), (3, .int v3)] [] := by
  refine iter_rule (hd := (fun v : Int32 × Int32 × St => Wk X (oM G) 4 v.2.2 5 [(0, .ref (al (oM G) 0)), (1, .int p1), (2, .int v.1), (3, .int v.2.1)] [])) (ex := (fun v : Int32 × Int32 × St => Wk X (oM G) 4 v.2.2 38 [(0, .ref (al (oM G) 0)), (1, .int p1), (2, .int v.1), (3, .int v.2.1)] [])) ?_ n (v2, v3, st) q hq kx
  rintro ⟨v2, v3, st⟩ oo hbv K
  show Wk X (oM G) 4 st 5 [(0, .ref (al (oM G) 0)), (1, .int p1), (2, .int v2), (3, .int v3)] []
  have hf : l_X6_quickestOf_5 p1 v2 v3 st = some oo := hbv
  unfold l_X6_quickestOf_5 at hf
  refine k_iload_n (pc' := 6) h dX6_quickestOf_5 rfl rfl 3 rfl ?_
  refine k_bipush (pc' := 8) h dX6_quickestOf_6 rfl cb_6 ?_
  refine k_icmp_ge (tgt := 38) (pc' := 11) h dX6_quickestOf_8 rfl rfl (fun c1 => ?_) (fun c1 => ?_)
  · replace hf := if_t c1 hf
    refine k_sub (lv' := [(0, .ref (al (oM G) 0)), (1, .int p1), (2, .int v2), (3, .int v3)]) [0, 1, 2, 3] rfl ?_
    exact lp_o hf K
  · replace hf := if_f c1 hf
    refine k_aload_n (pc' := 12) h dX6_quickestOf_11 rfl rfl 0 rfl ?_
    refine k_iload_n (pc' := 13) h dX6_quickestOf_12 rfl rfl 1 rfl ?_
    refine k_iload_n (pc' := 14) h dX6_quickestOf_13 rfl rfl 3 rfl ?_
    obtain ⟨q2, hq2, hf⟩ := bd_s hf
    refine k_callV (As := [.int p1, .int v3]) (rest := []) (rv := some (.int q2.1)) (st' := q2.2) (stk' := [.int q2.1]) (pc' := 17) h dX6_quickestOf_14 rfl ml_X6_214 wc_X6_takesOf wi_X6_takesOf ⟨Nat.le_of_ble_eq_true rfl, Nat.le_of_ble_eq_true rfl⟩ bM_mo rfl rfl rfl rfl (Nat.le_of_ble_eq_true rfl) (fun l => c_X6_takesOf l p1 v3 st  _ _ hq2) rfl ?_
    refine k_aload_n (pc' := 18) h dX6_quickestOf_17 rfl rfl 0 rfl ?_
    refine k_iload_n (pc' := 19) h dX6_quickestOf_18 rfl rfl 1 rfl ?_
    refine k_iload_n (pc' := 20) h dX6_quickestOf_19 rfl rfl 2 rfl ?_
    obtain ⟨q3, hq3, hf⟩ := bd_s hf
    refine k_callV (As := [.int p1, .int v2]) (rest := [.int q2.1]) (rv := some (.int q3.1)) (st' := q3.2) (stk' := [.int q3.1, .int q2.1]) (pc' := 23) h dX6_quickestOf_20 rfl ml_X6_214 wc_X6_takesOf wi_X6_takesOf ⟨Nat.le_of_ble_eq_true rfl, Nat.le_of_ble_eq_true rfl⟩ bM_mo rfl rfl rfl rfl (Nat.le_of_ble_eq_true rfl) (fun l => c_X6_takesOf l p1 v2 q2.2  _ _ hq3) rfl ?_
    refine k_icmp_ge (tgt := 30) (pc' := 26) h dX6_quickestOf_23 rfl rfl (fun c4 => ?_) (fun c4 => ?_)
    · replace hf := if_t c4 hf
      refine k_iload_n (pc' := 31) h dX6_quickestOf_30 rfl rfl 2 rfl ?_
      refine k_istore_n (lv' := [(0, .ref (al (oM G) 0)), (1, .int p1), (2, .int v2), (3, .int v3)]) (pc' := 32) h dX6_quickestOf_31 rfl rfl (Nat.le_of_ble_eq_true rfl) [1, 2, 0, 3] rfl ?_
      refine k_iinc (lv' := [(0, .ref (al (oM G) 0)), (1, .int p1), (2, .int v2), (3, .int (v3 + (1 : Int32)))]) (pc' := 35) h dX6_quickestOf_32 rfl 3 rfl (congrArg (fun z => v3 + z) ci_1) (Nat.le_of_ble_eq_true rfl) [1, 2, 3, 0] rfl ?_
      refine k_goto (tgt := 5) h dX6_quickestOf_35 rfl ?_
      refine k_sub (lv' := [(0, .ref (al (oM G) 0)), (1, .int p1), (2, .int v2), (3, .int (v3 + (1 : Int32)))]) [0, 1, 2, 3] rfl ?_
      exact lp_o hf K
    · replace hf := if_f c4 hf
      refine k_iload_n (pc' := 27) h dX6_quickestOf_26 rfl rfl 3 rfl ?_
      refine k_goto (tgt := 31) h dX6_quickestOf_27 rfl ?_
      refine k_istore_n (lv' := [(0, .ref (al (oM G) 0)), (1, .int p1), (2, .int v3), (3, .int v3)]) (pc' := 32) h dX6_quickestOf_31 rfl rfl (Nat.le_of_ble_eq_true rfl) [1, 2, 0, 3] rfl ?_
      refine k_iinc (lv' := [(0, .ref (al (oM G) 0)), (1, .int p1), (2, .int v3), (3, .int (v3 + (1 : Int32)))]) (pc' := 35) h dX6_quickestOf_32 rfl 3 rfl (congrArg (fun z => v3 + z) ci_1) (Nat.le_of_ble_eq_true rfl) [1, 2, 3, 0] rfl ?_
      refine k_goto (tgt := 5) h dX6_quickestOf_35 rfl ?_
      refine k_sub (lv' := [(0, .ref (al (oM G) 0)), (1, .int p1), (2, .int v3), (3, .int (v3 + (1 : Int32)))]) [0, 1, 2, 3] rfl ?_
      exact lp_o hf K
noncomputable def f_X6_quickestOf (x0 : Int32) (st : St) : Option (Int32 × St) :=
  ((iter (fun v : Int32 × Int32 × St => l_X6_quickestOf_5 x0 v.1 v.2.1 v.2.2) fuel ((-9 : Int32), (0 : Int32), st)).bind (fun q5 => (some (q5.1, q5.2.2))))
set_option maxHeartbeats 4000000 in
theorem c_X6_quickestOf {G : GG} (l : Launch) (x0 : Int32) (st : St)  (rr : Int32) (st' : St) (hf : f_X6_quickestOf x0 st = some (rr, st')) : MM l yX6_quickestOf cX6_quickestOf 4 (some .int) 5 (oM G) [.ref (al (oM G) 0), .int x0] st (some (.int rr)) st' := by
  refine mk_MM (by decide +kernel) (Nat.le_of_ble_eq_true rfl) (fun X h r => ?_)
  refine k_sub (lv' := [(0, .ref (al (oM G) 0)), (1, .int x0)]) [0, 1] rfl ?_
  unfold f_X6_quickestOf at hf
  refine k_bipush (pc' := 2) h dX6_quickestOf_0 rfl cb_m9 ?_
  refine k_istore_n (lv' := [(0, .ref (al (oM G) 0)), (1, .int x0), (2, .int (-9 : Int32))]) (pc' := 3) h dX6_quickestOf_2 rfl rfl (Nat.le_of_ble_eq_true rfl) [1, 2, 0] rfl ?_
  refine k_iconst (pc' := 4) h dX6_quickestOf_3 rfl ci_0 ?_
  refine k_istore_n (lv' := [(0, .ref (al (oM G) 0)), (1, .int x0), (2, .int (-9 : Int32)), (3, .int (0 : Int32))]) (pc' := 5) h dX6_quickestOf_4 rfl rfl (Nat.le_of_ble_eq_true rfl) [1, 2, 3, 0] rfl ?_
  obtain ⟨q5, hq5, hf⟩ := bd_s hf
  refine w_X6_quickestOf_5 h x0  fuel (-9 : Int32) (0 : Int32) st q5 hq5 ?_
  refine k_iload_n (pc' := 39) h dX6_quickestOf_38 rfl rfl 2 rfl ?_
  exact k_iret h r dX6_quickestOf_39 (lf_i hf)
noncomputable def l_X6_soured_5 (p1 : Int32) (p2 : Int32) (v3 : Int32) (v4 : Int32) (st : St) : Option ((Int32 × Int32 × St) ⊕ (Int32 × Int32 × St)) :=
  (if (st.1 0 10) ≤ v4 then (some (.inr (v3, v4, st))) else ((f_X6_has p1 v4 st).bind (fun q2 => (if q2.1 = 0 then (lw (v3 ||| (0 : Int32)) (fun y4 => (some (.inl (y4, v4 + (1 : Int32), q2.2))))) else ((f_X6_isSour v4 p2 q2.2).bind (fun q5 => (if q5.1 = 0 then (lw (v3 ||| (0 : Int32)) (fun y7 => (some (.inl (y7, v4 + (1 : Int32), q5.2))))) else (lw (v3 ||| ((1 : Int32) <<< (v4 &&& 31))) (fun y8 => (some (.inl (y8, v4 + (1 : Int32), q5.2))))))))))))
set_option maxHeartbeats 4000000 in
theorem w_X6_soured_5 {G : GG} {X : Cx} (h : Ok X (oM G) cX6_soured RX6 5 (RM 4))  (p1 : Int32) (p2 : Int32)  (n : Nat) (v3 : Int32) (v4 : Int32) (st : St) (q : Int32 × Int32 × St) (hq : iter (fun v : Int32 × Int32 × St => l_X6_soured_5 p1 p2 v.1 v.2.1 v.2.2) n (v3, v4, st) = some q) (kx : Wk X (oM G) 5 q.2.2 50 [(0, .ref (al (oM G) 0)), (1, .int p1), (2, .int p2), (3, .int q.1), (4, .int q.2.1)] []) : Wk X (oM G) 5 st 5 [(0, .ref (al (oM G) 0)), (1, .int p1), (2, .int p2), (3, .int v3), (4, .int v4)] [] := by
  refine iter_rule (hd := (fun v : Int32 × Int32 × St => Wk X (oM G) 5 v.2.2 5 [(0, .ref (al (oM G) 0)), (1, .int p1), (2, .int p2), (3, .int v.1), (4, .int v.2.1)] [])) (ex := (fun v : Int32 × Int32 × St => Wk X (oM G) 5 v.2.2 50 [(0, .ref (al (oM G) 0)), (1, .int p1), (2, .int p2), (3, .int v.1), (4, .int v.2.1)] [])) ?_ n (v3, v4, st) q hq kx
  rintro ⟨v3, v4, st⟩ oo hbv K
  show Wk X (oM G) 5 st 5 [(0, .ref (al (oM G) 0)), (1, .int p1), (2, .int p2), (3, .int v3), (4, .int v4)] []
  have hf : l_X6_soured_5 p1 p2 v3 v4 st = some oo := hbv
  unfold l_X6_soured_5 at hf
  refine k_iload (pc' := 7) h dX6_soured_5 rfl 4 rfl ?_
  refine k_aload_n (pc' := 8) h dX6_soured_7 rfl rfl 0 rfl ?_
  refine k_get (v := .int (st.1 0 10)) (pc' := 11) h dX6_soured_8 rfl bM_mo fl_X6_135 rfl ?_
  refine k_icmp_ge (tgt := 50) (pc' := 14) h dX6_soured_11 rfl rfl (fun c1 => ?_) (fun c1 => ?_)
  · replace hf := if_t c1 hf
    refine k_sub (lv' := [(0, .ref (al (oM G) 0)), (1, .int p1), (2, .int p2), (3, .int v3), (4, .int v4)]) [0, 1, 2, 3, 4] rfl ?_
    exact lp_o hf K
  · replace hf := if_f c1 hf
    refine k_iload_n (pc' := 15) h dX6_soured_14 rfl rfl 3 rfl ?_
    refine k_iload_n (pc' := 16) h dX6_soured_15 rfl rfl 1 rfl ?_
    refine k_iload (pc' := 18) h dX6_soured_16 rfl 4 rfl ?_
    obtain ⟨q2, hq2, hf⟩ := bd_s hf
    refine k_callS (As := [.int p1, .int v4]) (rest := [.int v3]) (rv := some (.int q2.1)) (st' := q2.2) (stk' := [.int q2.1, .int v3]) (pc' := 21) h dX6_soured_18 rfl ml_X6_202 wc_X6_has ws_X6_has ⟨Nat.le_of_ble_eq_true rfl, Nat.le_of_ble_eq_true rfl⟩ rfl rfl (Nat.le_of_ble_eq_true rfl) (fun l => c_X6_has l p1 v4 st  _ _ hq2) rfl ?_
    refine k_if_eq (tgt := 41) (pc' := 24) h dX6_soured_21 rfl rfl (fun c3 => ?_) (fun c3 => ?_)
    · replace hf := if_t c3 hf
      refine k_iconst (pc' := 42) h dX6_soured_41 rfl ci_0 ?_
      refine k_ior (pc' := 43) h dX6_soured_42 rfl ?_
      obtain ⟨y4, hy4, hf⟩ := lw_s hf
      refine k_eqi hy4 ?_
      refine k_istore_n (lv' := [(0, .ref (al (oM G) 0)), (1, .int p1), (2, .int p2), (3, .int y4), (4, .int v4)]) (pc' := 44) h dX6_soured_43 rfl rfl (Nat.le_of_ble_eq_true rfl) [1, 2, 3, 0, 4] rfl ?_
      refine k_iinc (lv' := [(0, .ref (al (oM G) 0)), (1, .int p1), (2, .int p2), (3, .int y4), (4, .int (v4 + (1 : Int32)))]) (pc' := 47) h dX6_soured_44 rfl 4 rfl (congrArg (fun z => v4 + z) ci_1) (Nat.le_of_ble_eq_true rfl) [1, 2, 3, 4, 0] rfl ?_
      refine k_goto (tgt := 5) h dX6_soured_47 rfl ?_
      refine k_sub (lv' := [(0, .ref (al (oM G) 0)), (1, .int p1), (2, .int p2), (3, .int y4), (4, .int (v4 + (1 : Int32)))]) [0, 1, 2, 3, 4] rfl ?_
      exact lp_o hf K
    · replace hf := if_f c3 hf
      refine k_aload_n (pc' := 25) h dX6_soured_24 rfl rfl 0 rfl ?_
      refine k_iload (pc' := 27) h dX6_soured_25 rfl 4 rfl ?_
      refine k_iload_n (pc' := 28) h dX6_soured_27 rfl rfl 2 rfl ?_
      obtain ⟨q5, hq5, hf⟩ := bd_s hf
      refine k_callV (As := [.int v4, .int p2]) (rest := [.int v3]) (rv := some (.int q5.1)) (st' := q5.2) (stk' := [.int q5.1, .int v3]) (pc' := 31) h dX6_soured_28 rfl ml_X6_169 wc_X6_isSour wi_X6_isSour ⟨Nat.le_of_ble_eq_true rfl, Nat.le_of_ble_eq_true rfl⟩ bM_mo rfl rfl rfl rfl (Nat.le_of_ble_eq_true rfl) (fun l => c_X6_isSour l v4 p2 q2.2  _ _ hq5) rfl ?_
      refine k_if_eq (tgt := 41) (pc' := 34) h dX6_soured_31 rfl rfl (fun c6 => ?_) (fun c6 => ?_)
      · replace hf := if_t c6 hf
        refine k_iconst (pc' := 42) h dX6_soured_41 rfl ci_0 ?_
        refine k_ior (pc' := 43) h dX6_soured_42 rfl ?_
        obtain ⟨y7, hy7, hf⟩ := lw_s hf
        refine k_eqi hy7 ?_
        refine k_istore_n (lv' := [(0, .ref (al (oM G) 0)), (1, .int p1), (2, .int p2), (3, .int y7), (4, .int v4)]) (pc' := 44) h dX6_soured_43 rfl rfl (Nat.le_of_ble_eq_true rfl) [1, 2, 3, 0, 4] rfl ?_
        refine k_iinc (lv' := [(0, .ref (al (oM G) 0)), (1, .int p1), (2, .int p2), (3, .int y7), (4, .int (v4 + (1 : Int32)))]) (pc' := 47) h dX6_soured_44 rfl 4 rfl (congrArg (fun z => v4 + z) ci_1) (Nat.le_of_ble_eq_true rfl) [1, 2, 3, 4, 0] rfl ?_
        refine k_goto (tgt := 5) h dX6_soured_47 rfl ?_
        refine k_sub (lv' := [(0, .ref (al (oM G) 0)), (1, .int p1), (2, .int p2), (3, .int y7), (4, .int (v4 + (1 : Int32)))]) [0, 1, 2, 3, 4] rfl ?_
        exact lp_o hf K
      · replace hf := if_f c6 hf
        refine k_iconst (pc' := 35) h dX6_soured_34 rfl ci_1 ?_
        refine k_iload (pc' := 37) h dX6_soured_35 rfl 4 rfl ?_
        refine k_ishl (pc' := 38) h dX6_soured_37 rfl ?_
        refine k_goto (tgt := 42) h dX6_soured_38 rfl ?_
        refine k_ior (pc' := 43) h dX6_soured_42 rfl ?_
        obtain ⟨y8, hy8, hf⟩ := lw_s hf
        refine k_eqi hy8 ?_
        refine k_istore_n (lv' := [(0, .ref (al (oM G) 0)), (1, .int p1), (2, .int p2), (3, .int y8), (4, .int v4)]) (pc' := 44) h dX6_soured_43 rfl rfl (Nat.le_of_ble_eq_true rfl) [1, 2, 3, 0, 4] rfl ?_
        refine k_iinc (lv' := [(0, .ref (al (oM G) 0)), (1, .int p1), (2, .int p2), (3, .int y8), (4, .int (v4 + (1 : Int32)))]) (pc' := 47) h dX6_soured_44 rfl 4 rfl (congrArg (fun z => v4 + z) ci_1) (Nat.le_of_ble_eq_true rfl) [1, 2, 3, 4, 0] rfl ?_
        refine k_goto (tgt := 5) h dX6_soured_47 rfl ?_
        refine k_sub (lv' := [(0, .ref (al (oM G) 0)), (1, .int p1), (2, .int p2), (3, .int y8), (4, .int (v4 + (1 : Int32)))]) [0, 1, 2, 3, 4] rfl ?_
        exact lp_o hf K
noncomputable def f_X6_soured (x0 : Int32) (x1 : Int32) (st : St) : Option (Int32 × St) :=
  ((iter (fun v : Int32 × Int32 × St => l_X6_soured_5 x0 x1 v.1 v.2.1 v.2.2) fuel ((0 : Int32), (0 : Int32), st)).bind (fun q9 => (some (q9.1, q9.2.2))))
set_option maxHeartbeats 4000000 in
theorem c_X6_soured {G : GG} (l : Launch) (x0 : Int32) (x1 : Int32) (st : St)  (rr : Int32) (st' : St) (hf : f_X6_soured x0 x1 st = some (rr, st')) : MM l yX6_soured cX6_soured 5 (some .int) 4 (oM G) [.ref (al (oM G) 0), .int x0, .int x1] st (some (.int rr)) st' := by
  refine mk_MM (by decide +kernel) (Nat.le_of_ble_eq_true rfl) (fun X h r => ?_)
  refine k_sub (lv' := [(0, .ref (al (oM G) 0)), (1, .int x0), (2, .int x1)]) [0, 1, 2] rfl ?_
  unfold f_X6_soured at hf
  refine k_iconst (pc' := 1) h dX6_soured_0 rfl ci_0 ?_
  refine k_istore_n (lv' := [(0, .ref (al (oM G) 0)), (1, .int x0), (2, .int x1), (3, .int (0 : Int32))]) (pc' := 2) h dX6_soured_1 rfl rfl (Nat.le_of_ble_eq_true rfl) [1, 2, 3, 0] rfl ?_
  refine k_iconst (pc' := 3) h dX6_soured_2 rfl ci_0 ?_
  refine k_istore (lv' := [(0, .ref (al (oM G) 0)), (1, .int x0), (2, .int x1), (3, .int (0 : Int32)), (4, .int (0 : Int32))]) (pc' := 5) h dX6_soured_3 rfl (Nat.le_of_ble_eq_true rfl) [1, 2, 3, 4, 0] rfl ?_
  obtain ⟨q9, hq9, hf⟩ := bd_s hf
  refine w_X6_soured_5 h x0 x1  fuel (0 : Int32) (0 : Int32) st q9 hq9 ?_
  refine k_iload_n (pc' := 51) h dX6_soured_50 rfl rfl 3 rfl ?_
  exact k_iret h r dX6_soured_51 (lf_i hf)
noncomputable def f_X6_quickest (x0 : Int32) (x1 : Int32) (st : St) : Option (Int32 × St) :=
  ((f_X6_isSign x0 st).bind (fun q1 => (if q1.1 = 0 then (some ((-1 : Int32), q1.2)) else ((f_X6_isSign x1 q1.2).bind (fun q3 => (if q3.1 = 0 then (some ((-1 : Int32), q3.2)) else ((f_X6_looksSo x0 x1 q3.2).bind (fun q5 => (if q5.1 = 0 then ((f_X6_meets (4 : Int32) q5.2).bind (fun q11 => (some (q11.1, q11.2)))) else ((f_X6_quickestOf q5.1 q5.2).bind (fun q7 => ((f_X6_soured q5.1 q7.1 q7.2).bind (fun q8 => ((f_X6_bits q8.1 q8.2).bind (fun q9 => ((f_X6_tells q9.1 q7.1 q9.2).bind (fun q10 => (some (q10.1, q10.2)))))))))))))))))))
set_option maxHeartbeats 4000000 in
theorem c_X6_quickest {G : GG} (l : Launch) (x0 : Int32) (x1 : Int32) (st : St)  (rr : Int32) (st' : St) (hf : f_X6_quickest x0 x1 st = some (rr, st')) : MM l yX6_quickest cX6_quickest 5 (some .int) 6 (oM G) [.ref (al (oM G) 0), .int x0, .int x1] st (some (.int rr)) st' := by
  refine mk_MM (by decide +kernel) (Nat.le_of_ble_eq_true rfl) (fun X h r => ?_)
  refine k_sub (lv' := [(0, .ref (al (oM G) 0)), (1, .int x0), (2, .int x1)]) [0, 1, 2] rfl ?_
  unfold f_X6_quickest at hf
  refine k_iload_n (pc' := 1) h dX6_quickest_0 rfl rfl 1 rfl ?_
  obtain ⟨q1, hq1, hf⟩ := bd_s hf
  refine k_callS (As := [.int x0]) (rest := []) (rv := some (.int q1.1)) (st' := q1.2) (stk' := [.int q1.1]) (pc' := 4) h dX6_quickest_1 rfl ml_X6_196 wc_X6_isSign ws_X6_isSign ⟨Nat.le_of_ble_eq_true rfl, Nat.le_of_ble_eq_true rfl⟩ rfl rfl (Nat.le_of_ble_eq_true rfl) (fun l => c_X6_isSign l x0 st  _ _ hq1) rfl ?_
  refine k_if_eq (tgt := 14) (pc' := 7) h dX6_quickest_4 rfl rfl (fun c2 => ?_) (fun c2 => ?_)
  · replace hf := if_t c2 hf
    refine k_iconst (pc' := 15) h dX6_quickest_14 rfl ci_m1 ?_
    exact k_iret h r dX6_quickest_15 (lf_i hf)
  · replace hf := if_f c2 hf
    refine k_iload_n (pc' := 8) h dX6_quickest_7 rfl rfl 2 rfl ?_
    obtain ⟨q3, hq3, hf⟩ := bd_s hf
    refine k_callS (As := [.int x1]) (rest := []) (rv := some (.int q3.1)) (st' := q3.2) (stk' := [.int q3.1]) (pc' := 11) h dX6_quickest_8 rfl ml_X6_196 wc_X6_isSign ws_X6_isSign ⟨Nat.le_of_ble_eq_true rfl, Nat.le_of_ble_eq_true rfl⟩ rfl rfl (Nat.le_of_ble_eq_true rfl) (fun l => c_X6_isSign l x1 q1.2  _ _ hq3) rfl ?_
    refine k_if_ne (tgt := 16) (pc' := 14) h dX6_quickest_11 rfl rfl (fun c4 => ?_) (fun c4 => ?_)
    · replace hf := if_f c4 hf
      refine k_aload_n (pc' := 17) h dX6_quickest_16 rfl rfl 0 rfl ?_
      refine k_iload_n (pc' := 18) h dX6_quickest_17 rfl rfl 1 rfl ?_
      refine k_iload_n (pc' := 19) h dX6_quickest_18 rfl rfl 2 rfl ?_
      obtain ⟨q5, hq5, hf⟩ := bd_s hf
      refine k_callV (As := [.int x0, .int x1]) (rest := []) (rv := some (.int q5.1)) (st' := q5.2) (stk' := [.int q5.1]) (pc' := 22) h dX6_quickest_19 rfl ml_X6_199 wc_X6_looksSo wi_X6_looksSo ⟨Nat.le_of_ble_eq_true rfl, Nat.le_of_ble_eq_true rfl⟩ bM_mo rfl rfl rfl rfl (Nat.le_of_ble_eq_true rfl) (fun l => c_X6_looksSo l x0 x1 q3.2  _ _ hq5) rfl ?_
      refine k_istore_n (lv' := [(0, .ref (al (oM G) 0)), (1, .int x0), (2, .int x1), (3, .int q5.1)]) (pc' := 23) h dX6_quickest_22 rfl rfl (Nat.le_of_ble_eq_true rfl) [1, 2, 3, 0] rfl ?_
      refine k_iload_n (pc' := 24) h dX6_quickest_23 rfl rfl 3 rfl ?_
      refine k_if_ne (tgt := 33) (pc' := 27) h dX6_quickest_24 rfl rfl (fun c6 => ?_) (fun c6 => ?_)
      · replace hf := if_f c6 hf
        refine k_aload_n (pc' := 34) h dX6_quickest_33 rfl rfl 0 rfl ?_
        refine k_iload_n (pc' := 35) h dX6_quickest_34 rfl rfl 3 rfl ?_
        obtain ⟨q7, hq7, hf⟩ := bd_s hf
        refine k_callV (As := [.int q5.1]) (rest := []) (rv := some (.int q7.1)) (st' := q7.2) (stk' := [.int q7.1]) (pc' := 38) h dX6_quickest_35 rfl ml_X6_217 wc_X6_quickestOf wi_X6_quickestOf ⟨Nat.le_of_ble_eq_true rfl, Nat.le_of_ble_eq_true rfl⟩ bM_mo rfl rfl rfl rfl (Nat.le_of_ble_eq_true rfl) (fun l => c_X6_quickestOf l q5.1 q5.2  _ _ hq7) rfl ?_
        refine k_istore (lv' := [(0, .ref (al (oM G) 0)), (1, .int x0), (2, .int x1), (3, .int q5.1), (4, .int q7.1)]) (pc' := 40) h dX6_quickest_38 rfl (Nat.le_of_ble_eq_true rfl) [1, 2, 3, 4, 0] rfl ?_
        refine k_aload_n (pc' := 41) h dX6_quickest_40 rfl rfl 0 rfl ?_
        refine k_aload_n (pc' := 42) h dX6_quickest_41 rfl rfl 0 rfl ?_
        refine k_iload_n (pc' := 43) h dX6_quickest_42 rfl rfl 3 rfl ?_
        refine k_iload (pc' := 45) h dX6_quickest_43 rfl 4 rfl ?_
        obtain ⟨q8, hq8, hf⟩ := bd_s hf
        refine k_callV (As := [.int q5.1, .int q7.1]) (rest := [.ref (al (oM G) 0)]) (rv := some (.int q8.1)) (st' := q8.2) (stk' := [.int q8.1, .ref (al (oM G) 0)]) (pc' := 48) h dX6_quickest_45 rfl ml_X6_220 wc_X6_soured wi_X6_soured ⟨Nat.le_of_ble_eq_true rfl, Nat.le_of_ble_eq_true rfl⟩ bM_mo rfl rfl rfl rfl (Nat.le_of_ble_eq_true rfl) (fun l => c_X6_soured l q5.1 q7.1 q7.2  _ _ hq8) rfl ?_
        obtain ⟨q9, hq9, hf⟩ := bd_s hf
        refine k_callS (As := [.int q8.1]) (rest := [.ref (al (oM G) 0)]) (rv := some (.int q9.1)) (st' := q9.2) (stk' := [.int q9.1, .ref (al (oM G) 0)]) (pc' := 51) h dX6_quickest_48 rfl ml_X6_223 wc_X6_bits ws_X6_bits ⟨Nat.le_of_ble_eq_true rfl, Nat.le_of_ble_eq_true rfl⟩ rfl rfl (Nat.le_of_ble_eq_true rfl) (fun l => c_X6_bits l q8.1 q8.2  _ _ hq9) rfl ?_
        refine k_iload (pc' := 53) h dX6_quickest_51 rfl 4 rfl ?_
        obtain ⟨q10, hq10, hf⟩ := bd_s hf
        refine k_callV (As := [.int q9.1, .int q7.1]) (rest := []) (rv := some (.int q10.1)) (st' := q10.2) (stk' := [.int q10.1]) (pc' := 56) h dX6_quickest_53 rfl ml_X6_105 wc_X6_tells wi_X6_tells ⟨Nat.le_of_ble_eq_true rfl, Nat.le_of_ble_eq_true rfl⟩ bM_mo rfl rfl rfl rfl (Nat.le_of_ble_eq_true rfl) (fun l => c_X6_tells l q9.1 q7.1 q9.2  _ _ hq10) rfl ?_
        exact k_iret h r dX6_quickest_56 (lf_i hf)
      · replace hf := if_t c6 hf
        refine k_aload_n (pc' := 28) h dX6_quickest_27 rfl rfl 0 rfl ?_
        refine k_iconst (pc' := 29) h dX6_quickest_28 rfl ci_4 ?_
        obtain ⟨q11, hq11, hf⟩ := bd_s hf
        refine k_callV (As := [.int (4 : Int32)]) (rest := []) (rv := some (.int q11.1)) (st' := q11.2) (stk' := [.int q11.1]) (pc' := 32) h dX6_quickest_29 rfl ml_X6_97 wc_X6_meets wi_X6_meets ⟨Nat.le_of_ble_eq_true rfl, Nat.le_of_ble_eq_true rfl⟩ bM_mo rfl rfl rfl rfl (Nat.le_of_ble_eq_true rfl) (fun l => c_X6_meets l (4 : Int32) q5.2  _ _ hq11) rfl ?_
        exact k_iret h r dX6_quickest_32 (lf_i hf)
    · replace hf := if_t c4 hf
      refine k_iconst (pc' := 15) h dX6_quickest_14 rfl ci_m1 ?_
      exact k_iret h r dX6_quickest_15 (lf_i hf)
noncomputable def l_X6_needQueue_71 (p1 : Int32) (p2 : Int32) (v3 : Int32) (v4 : Int32) (st : St) : Option ((Int32 × Int32 × St) ⊕ (Int32 × Int32 × St)) :=
  (gd (inb p1 6) (if (st.1 2 p1.toNatClampNeg) ≤ v4 then (some (.inr (v3, v4, st))) else (if v4 = 0 then (if v3 = 0 then (some (.inl ((0 : Int32), v4 + (2 : Int32), st))) else ((f_X6_rowAt p1 v4 st).bind (fun q25 => ((f_X6_isRegular q25.1 q25.2).bind (fun q26 => (if q26.1 = 0 then (some (.inl ((0 : Int32), v4 + (2 : Int32), q26.2))) else ((f_X6_rowAt p1 (v4 + (1 : Int32)) q26.2).bind (fun q28 => ((f_X6_in q28.1 (0 : Int32) (999 : Int32) q28.2).bind (fun q29 => (if q29.1 = 0 then (some (.inl ((0 : Int32), v4 + (2 : Int32), q29.2))) else (some (.inl ((1 : Int32), v4 + (2 : Int32), q29.2)))))))))))))) else ((f_X6_rowAt p1 (v4 - (1 : Int32)) st).bind (fun q16 => (if v3 = 0 then (some (.inl ((0 : Int32), v4 + (2 : Int32), q16.2))) else ((f_X6_rowAt p1 v4 q16.2).bind (fun q18 => ((f_X6_isRegular q18.1 q18.2).bind (fun q19 => (if q19.1 = 0 then (some (.inl ((0 : Int32), v4 + (2 : Int32), q19.2))) else ((f_X6_rowAt p1 (v4 + (1 : Int32)) q19.2).bind (fun q21 => ((f_X6_in q21.1 q16.1 (999 : Int32) q21.2).bind (fun q22 => (if q22.1 = 0 then (some (.inl ((0 : Int32), v4 + (2 : Int32), q22.2))) else (some (.inl ((1 : Int32), v4 + (2 : Int32), q22.2)))))))))))))))))))
set_option maxHeartbeats 4000000 in
theorem w_X6_needQueue_71 {G : GG} {X : Cx} (h : Ok X (oM G) cX6_needQueue RX6 6 (RM 2))  (p1 : Int32) (p2 : Int32)  (n : Nat) (v3 : Int32) (v4 : Int32) (st : St) (q : Int32 × Int32 × St) (hq : iter (fun v : Int32 × Int32 × St => l_X6_needQueue_71 p1 p2 v.1 v.2.1 v.2.2) n (v3, v4, st) = some q) (kx : Wk X (oM G) 6 q.2.2 152 [(0, .ref (al (oM G) 0)), (1, .int p1), (2, .int p2), (3, .int q.1), (4, .int q.2.1)] []) : Wk X (oM G) 6 st 71 [(0, .ref (al (oM G) 0)), (1, .int p1), (2, .int p2), (3, .int v3), (4, .int v4)] [] := by
  refine iter_rule (hd := (fun v : Int32 × Int32 × St => Wk X (oM G) 6 v.2.2 71 [(0, .ref (al (oM G) 0)), (1, .int p1), (2, .int p2), (3, .int v.1), (4, .int v.2.1)] [])) (ex := (fun v : Int32 × Int32 × St => Wk X (oM G) 6 v.2.2 152 [(0, .ref (al (oM G) 0)), (1, .int p1), (2, .int p2), (3, .int v.1), (4, .int v.2.1)] [])) ?_ n (v3, v4, st) q hq kx
  rintro ⟨v3, v4, st⟩ oo hbv K
  show Wk X (oM G) 6 st 71 [(0, .ref (al (oM G) 0)), (1, .int p1), (2, .int p2), (3, .int v3), (4, .int v4)] []
  have hf : l_X6_needQueue_71 p1 p2 v3 v4 st = some oo := hbv
  unfold l_X6_needQueue_71 at hf
  refine k_iload (pc' := 73) h dX6_needQueue_71 rfl 4 rfl ?_
  refine k_aload_n (pc' := 74) h dX6_needQueue_73 rfl rfl 0 rfl ?_
  refine k_get (v := .ref (al (oM G) 2)) (pc' := 77) h dX6_needQueue_74 rfl bM_mo fl_X6_17 rfl ?_
  refine k_iload_n (pc' := 78) h dX6_needQueue_77 rfl rfl 1 rfl ?_
  have g13 := gd_1 hf
  replace hf := gd_2 hf
  refine k_iald (pc' := 79) h dX6_needQueue_78 rfl aM_2 g13 ?_
  refine k_icmp_ge (tgt := 152) (pc' := 82) h dX6_needQueue_79 rfl rfl (fun c14 => ?_) (fun c14 => ?_)
  · replace hf := if_t c14 hf
    refine k_sub (lv' := [(0, .ref (al (oM G) 0)), (1, .int p1), (2, .int p2), (3, .int v3), (4, .int v4)]) [0, 1, 2, 3, 4] rfl ?_
    exact lp_o hf K
  · replace hf := if_f c14 hf
    refine k_iload (pc' := 84) h dX6_needQueue_82 rfl 4 rfl ?_
    refine k_if_ne (tgt := 91) (pc' := 87) h dX6_needQueue_84 rfl rfl (fun c15 => ?_) (fun c15 => ?_)
    · replace hf := if_f c15 hf
      refine k_aload_n (pc' := 92) h dX6_needQueue_91 rfl rfl 0 rfl ?_
      refine k_iload_n (pc' := 93) h dX6_needQueue_92 rfl rfl 1 rfl ?_
      refine k_iload (pc' := 95) h dX6_needQueue_93 rfl 4 rfl ?_
      refine k_iconst (pc' := 96) h dX6_needQueue_95 rfl ci_1 ?_
      refine k_isub (pc' := 97) h dX6_needQueue_96 rfl ?_
      obtain ⟨q16, hq16, hf⟩ := bd_s hf
      refine k_callV (As := [.int p1, .int (v4 - (1 : Int32))]) (rest := []) (rv := some (.int q16.1)) (st' := q16.2) (stk' := [.int q16.1]) (pc' := 100) h dX6_needQueue_97 rfl ml_X6_101 wc_X6_rowAt wi_X6_rowAt ⟨Nat.le_of_ble_eq_true rfl, Nat.le_of_ble_eq_true rfl⟩ bM_mo rfl rfl rfl rfl (Nat.le_of_ble_eq_true rfl) (fun l => c_X6_rowAt l p1 (v4 - (1 : Int32)) st  _ _ hq16) rfl ?_
      refine k_istore (lv' := [(0, .ref (al (oM G) 0)), (1, .int p1), (2, .int p2), (3, .int v3), (4, .int v4), (5, .int q16.1)]) (pc' := 102) h dX6_needQueue_100 rfl (Nat.le_of_ble_eq_true rfl) [1, 2, 3, 4, 5, 0] rfl ?_
      refine k_iload_n (pc' := 103) h dX6_needQueue_102 rfl rfl 3 rfl ?_
      refine k_if_eq (tgt := 144) (pc' := 106) h dX6_needQueue_103 rfl rfl (fun c17 => ?_) (fun c17 => ?_)
      · replace hf := if_t c17 hf
        refine k_iconst (pc' := 145) h dX6_needQueue_144 rfl ci_0 ?_
        refine k_istore_n (lv' := [(0, .ref (al (oM G) 0)), (1, .int p1), (2, .int p2), (3, .int (0 : Int32)), (4, .int v4), (5, .int q16.1)]) (pc' := 146) h dX6_needQueue_145 rfl rfl (Nat.le_of_ble_eq_true rfl) [1, 2, 3, 0, 4, 5] rfl ?_
        refine k_iinc (lv' := [(0, .ref (al (oM G) 0)), (1, .int p1), (2, .int p2), (3, .int (0 : Int32)), (4, .int (v4 + (2 : Int32))), (5, .int q16.1)]) (pc' := 149) h dX6_needQueue_146 rfl 4 rfl (congrArg (fun z => v4 + z) ci_2) (Nat.le_of_ble_eq_true rfl) [1, 2, 3, 4, 0, 5] rfl ?_
        refine k_goto (tgt := 71) h dX6_needQueue_149 rfl ?_
        refine k_sub (lv' := [(0, .ref (al (oM G) 0)), (1, .int p1), (2, .int p2), (3, .int (0 : Int32)), (4, .int (v4 + (2 : Int32)))]) [0, 1, 2, 3, 4] rfl ?_
        exact lp_o hf K
      · replace hf := if_f c17 hf
        refine k_aload_n (pc' := 107) h dX6_needQueue_106 rfl rfl 0 rfl ?_
        refine k_aload_n (pc' := 108) h dX6_needQueue_107 rfl rfl 0 rfl ?_
        refine k_iload_n (pc' := 109) h dX6_needQueue_108 rfl rfl 1 rfl ?_
        refine k_iload (pc' := 111) h dX6_needQueue_109 rfl 4 rfl ?_
        obtain ⟨q18, hq18, hf⟩ := bd_s hf
        refine k_callV (As := [.int p1, .int v4]) (rest := [.ref (al (oM G) 0)]) (rv := some (.int q18.1)) (st' := q18.2) (stk' := [.int q18.1, .ref (al (oM G) 0)]) (pc' := 114) h dX6_needQueue_111 rfl ml_X6_101 wc_X6_rowAt wi_X6_rowAt ⟨Nat.le_of_ble_eq_true rfl, Nat.le_of_ble_eq_true rfl⟩ bM_mo rfl rfl rfl rfl (Nat.le_of_ble_eq_true rfl) (fun l => c_X6_rowAt l p1 v4 q16.2  _ _ hq18) rfl ?_
        obtain ⟨q19, hq19, hf⟩ := bd_s hf
        refine k_callV (As := [.int q18.1]) (rest := []) (rv := some (.int q19.1)) (st' := q19.2) (stk' := [.int q19.1]) (pc' := 117) h dX6_needQueue_114 rfl ml_X6_163 wc_X6_isRegular wi_X6_isRegular ⟨Nat.le_of_ble_eq_true rfl, Nat.le_of_ble_eq_true rfl⟩ bM_mo rfl rfl rfl rfl (Nat.le_of_ble_eq_true rfl) (fun l => c_X6_isRegular l q18.1 q18.2  _ _ hq19) rfl ?_
        refine k_if_eq (tgt := 144) (pc' := 120) h dX6_needQueue_117 rfl rfl (fun c20 => ?_) (fun c20 => ?_)
        · replace hf := if_t c20 hf
          refine k_iconst (pc' := 145) h dX6_needQueue_144 rfl ci_0 ?_
          refine k_istore_n (lv' := [(0, .ref (al (oM G) 0)), (1, .int p1), (2, .int p2), (3, .int (0 : Int32)), (4, .int v4), (5, .int q16.1)]) (pc' := 146) h dX6_needQueue_145 rfl rfl (Nat.le_of_ble_eq_true rfl) [1, 2, 3, 0, 4, 5] rfl ?_
          refine k_iinc (lv' := [(0, .ref (al (oM G) 0)), (1, .int p1), (2, .int p2), (3, .int (0 : Int32)), (4, .int (v4 + (2 : Int32))), (5, .int q16.1)]) (pc' := 149) h dX6_needQueue_146 rfl 4 rfl (congrArg (fun z => v4 + z) ci_2) (Nat.le_of_ble_eq_true rfl) [1, 2, 3, 4, 0, 5] rfl ?_
          refine k_goto (tgt := 71) h dX6_needQueue_149 rfl ?_
          refine k_sub (lv' := [(0, .ref (al (oM G) 0)), (1, .int p1), (2, .int p2), (3, .int (0 : Int32)), (4, .int (v4 + (2 : Int32)))]) [0, 1, 2, 3, 4] rfl ?_
          exact lp_o hf K
        · replace hf := if_f c20 hf
          refine k_aload_n (pc' := 121) h dX6_needQueue_120 rfl rfl 0 rfl ?_
          refine k_iload_n (pc' := 122) h dX6_needQueue_121 rfl rfl 1 rfl ?_
          refine k_iload (pc' := 124) h dX6_needQueue_122 rfl 4 rfl ?_
          refine k_iconst (pc' := 125) h dX6_needQueue_124 rfl ci_1 ?_
          refine k_iadd (pc' := 126) h dX6_needQueue_125 rfl ?_
          obtain ⟨q21, hq21, hf⟩ := bd_s hf
          refine k_callV (As := [.int p1, .int (v4 + (1 : Int32))]) (rest := []) (rv := some (.int q21.1)) (st' := q21.2) (stk' := [.int q21.1]) (pc' := 129) h dX6_needQueue_126 rfl ml_X6_101 wc_X6_rowAt wi_X6_rowAt ⟨Nat.le_of_ble_eq_true rfl, Nat.le_of_ble_eq_true rfl⟩ bM_mo rfl rfl rfl rfl (Nat.le_of_ble_eq_true rfl) (fun l => c_X6_rowAt l p1 (v4 + (1 : Int32)) q19.2  _ _ hq21) rfl ?_
          refine k_iload (pc' := 131) h dX6_needQueue_129 rfl 5 rfl ?_
          refine k_sipush (pc' := 134) h dX6_needQueue_131 rfl cs_999 ?_
          obtain ⟨q22, hq22, hf⟩ := bd_s hf
          refine k_callS (As := [.int q21.1, .int q16.1, .int (999 : Int32)]) (rest := []) (rv := some (.int q22.1)) (st' := q22.2) (stk' := [.int q22.1]) (pc' := 137) h dX6_needQueue_134 rfl ml_X6_83 wc_X6_in ws_X6_in ⟨Nat.le_of_ble_eq_true rfl, Nat.le_of_ble_eq_true rfl⟩ rfl rfl (Nat.le_of_ble_eq_true rfl) (fun l => c_X6_in l q21.1 q16.1 (999 : Int32) q21.2  _ _ hq22) rfl ?_
          refine k_if_eq (tgt := 144) (pc' := 140) h dX6_needQueue_137 rfl rfl (fun c23 => ?_) (fun c23 => ?_)
          · replace hf := if_t c23 hf
            refine k_iconst (pc' := 145) h dX6_needQueue_144 rfl ci_0 ?_
            refine k_istore_n (lv' := [(0, .ref (al (oM G) 0)), (1, .int p1), (2, .int p2), (3, .int (0 : Int32)), (4, .int v4), (5, .int q16.1)]) (pc' := 146) h dX6_needQueue_145 rfl rfl (Nat.le_of_ble_eq_true rfl) [1, 2, 3, 0, 4, 5] rfl ?_
            refine k_iinc (lv' := [(0, .ref (al (oM G) 0)), (1, .int p1), (2, .int p2), (3, .int (0 : Int32)), (4, .int (v4 + (2 : Int32))), (5, .int q16.1)]) (pc' := 149) h dX6_needQueue_146 rfl 4 rfl (congrArg (fun z => v4 + z) ci_2) (Nat.le_of_ble_eq_true rfl) [1, 2, 3, 4, 0, 5] rfl ?_
            refine k_goto (tgt := 71) h dX6_needQueue_149 rfl ?_
            refine k_sub (lv' := [(0, .ref (al (oM G) 0)), (1, .int p1), (2, .int p2), (3, .int (0 : Int32)), (4, .int (v4 + (2 : Int32)))]) [0, 1, 2, 3, 4] rfl ?_
            exact lp_o hf K
          · replace hf := if_f c23 hf
            refine k_iconst (pc' := 141) h dX6_needQueue_140 rfl ci_1 ?_
            refine k_goto (tgt := 145) h dX6_needQueue_141 rfl ?_
            refine k_istore_n (lv' := [(0, .ref (al (oM G) 0)), (1, .int p1), (2, .int p2), (3, .int (1 : Int32)), (4, .int v4), (5, .int q16.1)]) (pc' := 146) h dX6_needQueue_145 rfl rfl (Nat.le_of_ble_eq_true rfl) [1, 2, 3, 0, 4, 5] rfl ?_
            refine k_iinc (lv' := [(0, .ref (al (oM G) 0)), (1, .int p1), (2, .int p2), (3, .int (1 : Int32)), (4, .int (v4 + (2 : Int32))), (5, .int q16.1)]) (pc' := 149) h dX6_needQueue_146 rfl 4 rfl (congrArg (fun z => v4 + z) ci_2) (Nat.le_of_ble_eq_true rfl) [1, 2, 3, 4, 0, 5] rfl ?_
            refine k_goto (tgt := 71) h dX6_needQueue_149 rfl ?_
            refine k_sub (lv' := [(0, .ref (al (oM G) 0)), (1, .int p1), (2, .int p2), (3, .int (1 : Int32)), (4, .int (v4 + (2 : Int32)))]) [0, 1, 2, 3, 4] rfl ?_
            exact lp_o hf K
    · replace hf := if_t c15 hf
      refine k_iconst (pc' := 88) h dX6_needQueue_87 rfl ci_0 ?_
      refine k_goto (tgt := 100) h dX6_needQueue_88 rfl ?_
      refine k_istore (lv' := [(0, .ref (al (oM G) 0)), (1, .int p1), (2, .int p2), (3, .int v3), (4, .int v4), (5, .int (0 : Int32))]) (pc' := 102) h dX6_needQueue_100 rfl (Nat.le_of_ble_eq_true rfl) [1, 2, 3, 4, 5, 0] rfl ?_
      refine k_iload_n (pc' := 103) h dX6_needQueue_102 rfl rfl 3 rfl ?_
      refine k_if_eq (tgt := 144) (pc' := 106) h dX6_needQueue_103 rfl rfl (fun c24 => ?_) (fun c24 => ?_)
      · replace hf := if_t c24 hf
        refine k_iconst (pc' := 145) h dX6_needQueue_144 rfl ci_0 ?_
        refine k_istore_n (lv' := [(0, .ref (al (oM G) 0)), (1, .int p1), (2, .int p2), (3, .int (0 : Int32)), (4, .int v4), (5, .int (0 : Int32))]) (pc' := 146) h dX6_needQueue_145 rfl rfl (Nat.le_of_ble_eq_true rfl) [1, 2, 3, 0, 4, 5] rfl ?_
        refine k_iinc (lv' := [(0, .ref (al (oM G) 0)), (1, .int p1), (2, .int p2), (3, .int (0 : Int32)), (4, .int (v4 + (2 : Int32))), (5, .int (0 : Int32))]) (pc' := 149) h dX6_needQueue_146 rfl 4 rfl (congrArg (fun z => v4 + z) ci_2) (Nat.le_of_ble_eq_true rfl) [1, 2, 3, 4, 0, 5] rfl ?_
        refine k_goto (tgt := 71) h dX6_needQueue_149 rfl ?_
        refine k_sub (lv' := [(0, .ref (al (oM G) 0)), (1, .int p1), (2, .int p2), (3, .int (0 : Int32)), (4, .int (v4 + (2 : Int32)))]) [0, 1, 2, 3, 4] rfl ?_
        exact lp_o hf K
      · replace hf := if_f c24 hf
        refine k_aload_n (pc' := 107) h dX6_needQueue_106 rfl rfl 0 rfl ?_
        refine k_aload_n (pc' := 108) h dX6_needQueue_107 rfl rfl 0 rfl ?_
        refine k_iload_n (pc' := 109) h dX6_needQueue_108 rfl rfl 1 rfl ?_
        refine k_iload (pc' := 111) h dX6_needQueue_109 rfl 4 rfl ?_
        obtain ⟨q25, hq25, hf⟩ := bd_s hf
        refine k_callV (As := [.int p1, .int v4]) (rest := [.ref (al (oM G) 0)]) (rv := some (.int q25.1)) (st' := q25.2) (stk' := [.int q25.1, .ref (al (oM G) 0)]) (pc' := 114) h dX6_needQueue_111 rfl ml_X6_101 wc_X6_rowAt wi_X6_rowAt ⟨Nat.le_of_ble_eq_true rfl, Nat.le_of_ble_eq_true rfl⟩ bM_mo rfl rfl rfl rfl (Nat.le_of_ble_eq_true rfl) (fun l => c_X6_rowAt l p1 v4 st  _ _ hq25) rfl ?_
        obtain ⟨q26, hq26, hf⟩ := bd_s hf
        refine k_callV (As := [.int q25.1]) (rest := []) (rv := some (.int q26.1)) (st' := q26.2) (stk' := [.int q26.1]) (pc' := 117) h dX6_needQueue_114 rfl ml_X6_163 wc_X6_isRegular wi_X6_isRegular ⟨Nat.le_of_ble_eq_true rfl, Nat.le_of_ble_eq_true rfl⟩ bM_mo rfl rfl rfl rfl (Nat.le_of_ble_eq_true rfl) (fun l => c_X6_isRegular l q25.1 q25.2  _ _ hq26) rfl ?_
        refine k_if_eq (tgt := 144) (pc' := 120) h dX6_needQueue_117 rfl rfl (fun c27 => ?_) (fun c27 => ?_)
        · replace hf := if_t c27 hf
          refine k_iconst (pc' := 145) h dX6_needQueue_144 rfl ci_0 ?_
          refine k_istore_n (lv' := [(0, .ref (al (oM G) 0)), (1, .int p1), (2, .int p2), (3, .int (0 : Int32)), (4, .int v4), (5, .int (0 : Int32))]) (pc' := 146) h dX6_needQueue_145 rfl rfl (Nat.le_of_ble_eq_true rfl) [1, 2, 3, 0, 4, 5] rfl ?_
          refine k_iinc (lv' := [(0, .ref (al (oM G) 0)), (1, .int p1), (2, .int p2), (3, .int (0 : Int32)), (4, .int (v4 + (2 : Int32))), (5, .int (0 : Int32))]) (pc' := 149) h dX6_needQueue_146 rfl 4 rfl (congrArg (fun z => v4 + z) ci_2) (Nat.le_of_ble_eq_true rfl) [1, 2, 3, 4, 0, 5] rfl ?_
          refine k_goto (tgt := 71) h dX6_needQueue_149 rfl ?_
          refine k_sub (lv' := [(0, .ref (al (oM G) 0)), (1, .int p1), (2, .int p2), (3, .int (0 : Int32)), (4, .int (v4 + (2 : Int32)))]) [0, 1, 2, 3, 4] rfl ?_
          exact lp_o hf K
        · replace hf := if_f c27 hf
          refine k_aload_n (pc' := 121) h dX6_needQueue_120 rfl rfl 0 rfl ?_
          refine k_iload_n (pc' := 122) h dX6_needQueue_121 rfl rfl 1 rfl ?_
          refine k_iload (pc' := 124) h dX6_needQueue_122 rfl 4 rfl ?_
          refine k_iconst (pc' := 125) h dX6_needQueue_124 rfl ci_1 ?_
          refine k_iadd (pc' := 126) h dX6_needQueue_125 rfl ?_
          obtain ⟨q28, hq28, hf⟩ := bd_s hf
          refine k_callV (As := [.int p1, .int (v4 + (1 : Int32))]) (rest := []) (rv := some (.int q28.1)) (st' := q28.2) (stk' := [.int q28.1]) (pc' := 129) h dX6_needQueue_126 rfl ml_X6_101 wc_X6_rowAt wi_X6_rowAt ⟨Nat.le_of_ble_eq_true rfl, Nat.le_of_ble_eq_true rfl⟩ bM_mo rfl rfl rfl rfl (Nat.le_of_ble_eq_true rfl) (fun l => c_X6_rowAt l p1 (v4 + (1 : Int32)) q26.2  _ _ hq28) rfl ?_
          refine k_iload (pc' := 131) h dX6_needQueue_129 rfl 5 rfl ?_
          refine k_sipush (pc' := 134) h dX6_needQueue_131 rfl cs_999 ?_
          obtain ⟨q29, hq29, hf⟩ := bd_s hf
          refine k_callS (As := [.int q28.1, .int (0 : Int32), .int (999 : Int32)]) (rest := []) (rv := some (.int q29.1)) (st' := q29.2) (stk' := [.int q29.1]) (pc' := 137) h dX6_needQueue_134 rfl ml_X6_83 wc_X6_in ws_X6_in ⟨Nat.le_of_ble_eq_true rfl, Nat.le_of_ble_eq_true rfl⟩ rfl rfl (Nat.le_of_ble_eq_true rfl) (fun l => c_X6_in l q28.1 (0 : Int32) (999 : Int32) q28.2  _ _ hq29) rfl ?_
          refine k_if_eq (tgt := 144) (pc' := 140) h dX6_needQueue_137 rfl rfl (fun c30 => ?_) (fun c30 => ?_)
          · replace hf := if_t c30 hf
            refine k_iconst (pc' := 145) h dX6_needQueue_144 rfl ci_0 ?_
            refine k_istore_n (lv' := [(0, .ref (al (oM G) 0)), (1, .int p1), (2, .int p2), (3, .int (0 : Int32)), (4, .int v4), (5, .int (0 : Int32))]) (pc' := 146) h dX6_needQueue_145 rfl rfl (Nat.le_of_ble_eq_true rfl) [1, 2, 3, 0, 4, 5] rfl ?_
            refine k_iinc (lv' := [(0, .ref (al (oM G) 0)), (1, .int p1), (2, .int p2), (3, .int (0 : Int32)), (4, .int (v4 + (2 : Int32))), (5, .int (0 : Int32))]) (pc' := 149) h dX6_needQueue_146 rfl 4 rfl (congrArg (fun z => v4 + z) ci_2) (Nat.le_of_ble_eq_true rfl) [1, 2, 3, 4, 0, 5] rfl ?_
            refine k_goto (tgt := 71) h dX6_needQueue_149 rfl ?_
            refine k_sub (lv' := [(0, .ref (al (oM G) 0)), (1, .int p1), (2, .int p2), (3, .int (0 : Int32)), (4, .int (v4 + (2 : Int32)))]) [0, 1, 2, 3, 4] rfl ?_
            exact lp_o hf K
          · replace hf := if_f c30 hf
            refine k_iconst (pc' := 141) h dX6_needQueue_140 rfl ci_1 ?_
            refine k_goto (tgt := 145) h dX6_needQueue_141 rfl ?_
            refine k_istore_n (lv' := [(0, .ref (al (oM G) 0)), (1, .int p1), (2, .int p2), (3, .int (1 : Int32)), (4, .int v4), (5, .int (0 : Int32))]) (pc' := 146) h dX6_needQueue_145 rfl rfl (Nat.le_of_ble_eq_true rfl) [1, 2, 3, 0, 4, 5] rfl ?_
            refine k_iinc (lv' := [(0, .ref (al (oM G) 0)), (1, .int p1), (2, .int p2), (3, .int (1 : Int32)), (4, .int (v4 + (2 : Int32))), (5, .int (0 : Int32))]) (pc' := 149) h dX6_needQueue_146 rfl 4 rfl (congrArg (fun z => v4 + z) ci_2) (Nat.le_of_ble_eq_true rfl) [1, 2, 3, 4, 0, 5] rfl ?_
            refine k_goto (tgt := 71) h dX6_needQueue_149 rfl ?_
            refine k_sub (lv' := [(0, .ref (al (oM G) 0)), (1, .int p1), (2, .int p2), (3, .int (1 : Int32)), (4, .int (v4 + (2 : Int32)))]) [0, 1, 2, 3, 4] rfl ?_
            exact lp_o hf K
noncomputable def f_X6_needQueue (x0 : Int32) (x1 : Int32) (st : St) : Option (Int32 × St) :=
  (if x1 = 0 then (some ((-1 : Int32), st)) else ((f_X6_isRow x0 st).bind (fun q2 => (if q2.1 = 0 then (some ((-1 : Int32), q2.2)) else (if (q2.2.1 0 10) = 0 then (some ((-4 : Int32), q2.2)) else (gd (inb x0 6) (if 0 ≤ (q2.2.1 2 x0.toNatClampNeg) then (gd (inb x0 6) (gd (nz (2 : Int32)) (if ((q2.2.1 2 x0.toNatClampNeg) - (q2.2.1 2 x0.toNatClampNeg) / (2 : Int32) * (2 : Int32)) = 0 then (gd (inb x0 6) (if (q2.2.1 2 x0.toNatClampNeg) ≤ (16 : Int32) then ((iter (fun v : Int32 × Int32 × St => l_X6_needQueue_71 x0 x1 v.1 v.2.1 v.2.2) fuel ((1 : Int32), (0 : Int32), q2.2)).bind (fun q31 => (if q31.1 = 0 then ((f_X6_meets (3 : Int32) q31.2.2).bind (fun q33 => (some (q33.1, q33.2)))) else (some ((0 : Int32), q31.2.2))))) else ((f_X6_meets (5 : Int32) q2.2).bind (fun q34 => (some (q34.1, q34.2)))))) else ((f_X6_meets (5 : Int32) q2.2).bind (fun q10 => (some (q10.1, q10.2))))))) else ((f_X6_meets (1 : Int32) q2.2).bind (fun q35 => (some (q35.1, q35.2)))))))))))
set_option maxHeartbeats 4000000 in
theorem c_X6_needQueue {G : GG} (l : Launch) (x0 : Int32) (x1 : Int32) (st : St)  (rr : Int32) (st' : St) (hf : f_X6_needQueue x0 x1 st = some (rr, st')) : MM l yX6_needQueue cX6_needQueue 6 (some .int) 2 (oM G) [.ref (al (oM G) 0), .int x0, .int x1] st (some (.int rr)) st' := by
  refine mk_MM (by decide +kernel) (Nat.le_of_ble_eq_true rfl) (fun X h r => ?_)
  refine k_sub (lv' := [(0, .ref (al (oM G) 0)), (1, .int x0), (2, .int x1)]) [0, 1, 2] rfl ?_
  unfold f_X6_needQueue at hf
  refine k_iload_n (pc' := 1) h dX6_needQueue_0 rfl rfl 2 rfl ?_
  refine k_if_eq (tgt := 11) (pc' := 4) h dX6_needQueue_1 rfl rfl (fun c1 => ?_) (fun c1 => ?_)
  · replace hf := if_t c1 hf
    refine k_iconst (pc' := 12) h dX6_needQueue_11 rfl ci_m1 ?_
    exact k_iret h r dX6_needQueue_12 (lf_i hf)
  · replace hf := if_f c1 hf
    refine k_iload_n (pc' := 5) h dX6_needQueue_4 rfl rfl 1 rfl ?_
    obtain ⟨q2, hq2, hf⟩ := bd_s hf
    refine k_callS (As := [.int x0]) (rest := []) (rv := some (.int q2.1)) (st' := q2.2) (stk' := [.int q2.1]) (pc' := 8) h dX6_needQueue_5 rfl ml_X6_93 wc_X6_isRow ws_X6_isRow ⟨Nat.le_of_ble_eq_true rfl, Nat.le_of_ble_eq_true rfl⟩ rfl rfl (Nat.le_of_ble_eq_true rfl) (fun l => c_X6_isRow l x0 st  _ _ hq2) rfl ?_
    refine k_if_ne (tgt := 13) (pc' := 11) h dX6_needQueue_8 rfl rfl (fun c3 => ?_) (fun c3 => ?_)
    · replace hf := if_f c3 hf
      refine k_aload_n (pc' := 14) h dX6_needQueue_13 rfl rfl 0 rfl ?_
      refine k_get (v := .int (q2.2.1 0 10)) (pc' := 17) h dX6_needQueue_14 rfl bM_mo fl_X6_135 rfl ?_
      refine k_if_ne (tgt := 23) (pc' := 20) h dX6_needQueue_17 rfl rfl (fun c4 => ?_) (fun c4 => ?_)
      · replace hf := if_f c4 hf
        refine k_aload_n (pc' := 24) h dX6_needQueue_23 rfl rfl 0 rfl ?_
        refine k_get (v := .ref (al (oM G) 2)) (pc' := 27) h dX6_needQueue_24 rfl bM_mo fl_X6_17 rfl ?_
        refine k_iload_n (pc' := 28) h dX6_needQueue_27 rfl rfl 1 rfl ?_
        have g5 := gd_1 hf
        replace hf := gd_2 hf
        refine k_iald (pc' := 29) h dX6_needQueue_28 rfl aM_2 g5 ?_
        refine k_if_ge (tgt := 38) (pc' := 32) h dX6_needQueue_29 rfl rfl (fun c6 => ?_) (fun c6 => ?_)
        · replace hf := if_t c6 hf
          refine k_aload_n (pc' := 39) h dX6_needQueue_38 rfl rfl 0 rfl ?_
          refine k_get (v := .ref (al (oM G) 2)) (pc' := 42) h dX6_needQueue_39 rfl bM_mo fl_X6_17 rfl ?_
          refine k_iload_n (pc' := 43) h dX6_needQueue_42 rfl rfl 1 rfl ?_
          have g7 := gd_1 hf
          replace hf := gd_2 hf
          refine k_iald (pc' := 44) h dX6_needQueue_43 rfl aM_2 g7 ?_
          refine k_iconst (pc' := 45) h dX6_needQueue_44 rfl ci_2 ?_
          have g8 := gd_1 hf
          replace hf := gd_2 hf
          refine k_irem (pc' := 46) h dX6_needQueue_45 rfl (nz_n g8) ?_
          refine k_if_ne (tgt := 60) (pc' := 49) h dX6_needQueue_46 rfl rfl (fun c9 => ?_) (fun c9 => ?_)
          · replace hf := if_f c9 hf
            refine k_aload_n (pc' := 61) h dX6_needQueue_60 rfl rfl 0 rfl ?_
            refine k_iconst (pc' := 62) h dX6_needQueue_61 rfl ci_5 ?_
            obtain ⟨q10, hq10, hf⟩ := bd_s hf
            refine k_callV (As := [.int (5 : Int32)]) (rest := []) (rv := some (.int q10.1)) (st' := q10.2) (stk' := [.int q10.1]) (pc' := 65) h dX6_needQueue_62 rfl ml_X6_97 wc_X6_meets wi_X6_meets ⟨Nat.le_of_ble_eq_true rfl, Nat.le_of_ble_eq_true rfl⟩ bM_mo rfl rfl rfl rfl (Nat.le_of_ble_eq_true rfl) (fun l => c_X6_meets l (5 : Int32) q2.2  _ _ hq10) rfl ?_
            exact k_iret h r dX6_needQueue_65 (lf_i hf)
          · replace hf := if_t c9 hf
            refine k_aload_n (pc' := 50) h dX6_needQueue_49 rfl rfl 0 rfl ?_
            refine k_get (v := .ref (al (oM G) 2)) (pc' := 53) h dX6_needQueue_50 rfl bM_mo fl_X6_17 rfl ?_
            refine k_iload_n (pc' := 54) h dX6_needQueue_53 rfl rfl 1 rfl ?_
            have g11 := gd_1 hf
            replace hf := gd_2 hf
            refine k_iald (pc' := 55) h dX6_needQueue_54 rfl aM_2 g11 ?_
            refine k_bipush (pc' := 57) h dX6_needQueue_55 rfl cb_16 ?_
            refine k_icmp_le (tgt := 66) (pc' := 60) h dX6_needQueue_57 rfl rfl (fun c12 => ?_) (fun c12 => ?_)
            · replace hf := if_t c12 hf
              refine k_iconst (pc' := 67) h dX6_needQueue_66 rfl ci_1 ?_
              refine k_istore_n (lv' := [(0, .ref (al (oM G) 0)), (1, .int x0), (2, .int x1), (3, .int (1 : Int32))]) (pc' := 68) h dX6_needQueue_67 rfl rfl (Nat.le_of_ble_eq_true rfl) [1, 2, 3, 0] rfl ?_
              refine k_iconst (pc' := 69) h dX6_needQueue_68 rfl ci_0 ?_
              refine k_istore (lv' := [(0, .ref (al (oM G) 0)), (1, .int x0), (2, .int x1), (3, .int (1 : Int32)), (4, .int (0 : Int32))]) (pc' := 71) h dX6_needQueue_69 rfl (Nat.le_of_ble_eq_true rfl) [1, 2, 3, 4, 0] rfl ?_
              obtain ⟨q31, hq31, hf⟩ := bd_s hf
              refine w_X6_needQueue_71 h x0 x1  fuel (1 : Int32) (0 : Int32) q2.2 q31 hq31 ?_
              refine k_iload_n (pc' := 153) h dX6_needQueue_152 rfl rfl 3 rfl ?_
              refine k_if_eq (tgt := 160) (pc' := 156) h dX6_needQueue_153 rfl rfl (fun c32 => ?_) (fun c32 => ?_)
              · replace hf := if_t c32 hf
                refine k_aload_n (pc' := 161) h dX6_needQueue_160 rfl rfl 0 rfl ?_
                refine k_iconst (pc' := 162) h dX6_needQueue_161 rfl ci_3 ?_
                obtain ⟨q33, hq33, hf⟩ := bd_s hf
                refine k_callV (As := [.int (3 : Int32)]) (rest := []) (rv := some (.int q33.1)) (st' := q33.2) (stk' := [.int q33.1]) (pc' := 165) h dX6_needQueue_162 rfl ml_X6_97 wc_X6_meets wi_X6_meets ⟨Nat.le_of_ble_eq_true rfl, Nat.le_of_ble_eq_true rfl⟩ bM_mo rfl rfl rfl rfl (Nat.le_of_ble_eq_true rfl) (fun l => c_X6_meets l (3 : Int32) q31.2.2  _ _ hq33) rfl ?_
                exact k_iret h r dX6_needQueue_165 (lf_i hf)
              · replace hf := if_f c32 hf
                refine k_iconst (pc' := 157) h dX6_needQueue_156 rfl ci_0 ?_
                refine k_goto (tgt := 165) h dX6_needQueue_157 rfl ?_
                exact k_iret h r dX6_needQueue_165 (lf_i hf)
            · replace hf := if_f c12 hf
              refine k_aload_n (pc' := 61) h dX6_needQueue_60 rfl rfl 0 rfl ?_
              refine k_iconst (pc' := 62) h dX6_needQueue_61 rfl ci_5 ?_
              obtain ⟨q34, hq34, hf⟩ := bd_s hf
              refine k_callV (As := [.int (5 : Int32)]) (rest := []) (rv := some (.int q34.1)) (st' := q34.2) (stk' := [.int q34.1]) (pc' := 65) h dX6_needQueue_62 rfl ml_X6_97 wc_X6_meets wi_X6_meets ⟨Nat.le_of_ble_eq_true rfl, Nat.le_of_ble_eq_true rfl⟩ bM_mo rfl rfl rfl rfl (Nat.le_of_ble_eq_true rfl) (fun l => c_X6_meets l (5 : Int32) q2.2  _ _ hq34) rfl ?_
              exact k_iret h r dX6_needQueue_65 (lf_i hf)
        · replace hf := if_f c6 hf
          refine k_aload_n (pc' := 33) h dX6_needQueue_32 rfl rfl 0 rfl ?_
          refine k_iconst (pc' := 34) h dX6_needQueue_33 rfl ci_1 ?_
          obtain ⟨q35, hq35, hf⟩ := bd_s hf
          refine k_callV (As := [.int (1 : Int32)]) (rest := []) (rv := some (.int q35.1)) (st' := q35.2) (stk' := [.int q35.1]) (pc' := 37) h dX6_needQueue_34 rfl ml_X6_97 wc_X6_meets wi_X6_meets ⟨Nat.le_of_ble_eq_true rfl, Nat.le_of_ble_eq_true rfl⟩ bM_mo rfl rfl rfl rfl (Nat.le_of_ble_eq_true rfl) (fun l => c_X6_meets l (1 : Int32) q2.2  _ _ hq35) rfl ?_
          exact k_iret h r dX6_needQueue_37 (lf_i hf)
      · replace hf := if_t c4 hf
        refine k_bipush (pc' := 22) h dX6_needQueue_20 rfl cb_m4 ?_
        exact k_iret h r dX6_needQueue_22 (lf_i hf)
    · replace hf := if_t c3 hf
      refine k_iconst (pc' := 12) h dX6_needQueue_11 rfl ci_m1 ?_
      exact k_iret h r dX6_needQueue_12 (lf_i hf)
noncomputable def l_X6_passes_17 (p1 : Int32) (p2 : Int32) (v3 : Int32) (st : St) : Option ((Int32 × St) ⊕ (Int32 × St)) :=
  (gd (inb p1 6) (if (st.1 2 p1.toNatClampNeg) ≤ v3 then (some (.inr (v3, st))) else ((f_X6_rowAt p1 v3 st).bind (fun q6 => ((f_X6_rowAt p1 (v3 + (1 : Int32)) q6.2).bind (fun q7 => (if q7.1 ≤ (q7.2.1 0 30) then (lw (q7.2.1 0 30) (fun y9 => (gd (inb q6.1 6) (if (q7.2.1 7 q6.1.toNatClampNeg) = (3 : Int32) then (if (y9 - q7.1) ≤ (20 : Int32) then ((f_X6_askedIn q6.1 q7.2).bind (fun q20 => (ls (sA q20.2 0 (upd (q20.2.1 0) 30 (y9 + q20.1))) (fun s21 => (if p2 < (s21.1 0 30) then (ls (sA s21 0 (upd (s21.1 0) 29 ((s21.1 0 29) + (0 : Int32)))) (fun s23 => (some (.inl (v3 + (2 : Int32), s23))))) else (ls (sA s21 0 (upd (s21.1 0) 29 ((s21.1 0 29) + (1 : Int32)))) (fun s24 => (some (.inl (v3 + (2 : Int32), s24)))))))))) else (ls (sA q7.2 0 (upd (q7.2.1 0) 28 ((q7.2.1 0 28) + (1 : Int32)))) (fun s25 => (some (.inl (v3 + (2 : Int32), s25)))))) else (if (y9 - q7.1) ≤ (60 : Int32) then ((f_X6_askedIn q6.1 q7.2).bind (fun q13 => (ls (sA q13.2 0 (upd (q13.2.1 0) 30 (y9 + q13.1))) (fun s14 => (if p2 < (s14.1 0 30) then (ls (sA s14 0 (upd (s14.1 0) 29 ((s14.1 0 29) + (0 : Int32)))) (fun s16 => (some (.inl (v3 + (2 : Int32), s16))))) else (ls (sA s14 0 (upd (s14.1 0) 29 ((s14.1 0 29) + (1 : Int32)))) (fun s17 => (some (.inl (v3 + (2 : Int32), s17)))))))))) else (ls (sA q7.2 0 (upd (q7.2.1 0) 28 ((q7.2.1 0 28) + (1 : Int32)))) (fun s18 => (some (.inl (v3 + (2 : Int32), s18)))))))))) else (gd (inb q6.1 6) (if (q7.2.1 7 q6.1.toNatClampNeg) = (3 : Int32) then (if (q7.1 - q7.1) ≤ (20 : Int32) then ((f_X6_askedIn q6.1 q7.2).bind (fun q36 => (ls (sA q36.2 0 (upd (q36.2.1 0) 30 (q7.1 + q36.1))) (fun s37 => (if p2 < (s37.1 0 30) then (ls (sA s37 0 (upd (s37.1 0) 29 ((s37.1 0 29) + (0 : Int32)))) (fun s39 => (some (.inl (v3 + (2 : Int32), s39))))) else (ls (sA s37 0 (upd (s37.1 0) 29 ((s37.1 0 29) + (1 : Int32)))) (fun s40 => (some (.inl (v3 + (2 : Int32), s40)))))))))) else (ls (sA q7.2 0 (upd (q7.2.1 0) 28 ((q7.2.1 0 28) + (1 : Int32)))) (fun s41 => (some (.inl (v3 + (2 : Int32), s41)))))) else (if (q7.1 - q7.1) ≤ (60 : Int32) then ((f_X6_askedIn q6.1 q7.2).bind (fun q29 => (ls (sA q29.2 0 (upd (q29.2.1 0) 30 (q7.1 + q29.1))) (fun s30 => (if p2 < (s30.1 0 30) then (ls (sA s30 0 (upd (s30.1 0) 29 ((s30.1 0 29) + (0 : Int32)))) (fun s32 => (some (.inl (v3 + (2 : Int32), s32))))) else (ls (sA s30 0 (upd (s30.1 0) 29 ((s30.1 0 29) + (1 : Int32)))) (fun s33 => (some (.inl (v3 + (2 : Int32), s33)))))))))) else (ls (sA q7.2 0 (upd (q7.2.1 0) 28 ((q7.2.1 0 28) + (1 : Int32)))) (fun s34 => (some (.inl (v3 + (2 : Int32), s34)))))))))))))))
set_option maxHeartbeats 4000000 in
theorem w_X6_passes_17 {G : GG} {X : Cx} (h : Ok X (oM G) cX6_passes RX6 7 (RM 2))  (p1 : Int32) (p2 : Int32)  (n : Nat) (v3 : Int32) (st : St) (q : Int32 × St) (hq : iter (fun v : Int32 × St => l_X6_passes_17 p1 p2 v.1 v.2) n (v3, st) = some q) (kx : Wk X (oM G) 7 q.2 145 [(0, .ref (al (oM G) 0)), (1, .int p1), (2, .int p2), (3, .int q.1)] []) : Wk X (oM G) 7 st 17 [(0, .ref (al (oM G) 0)), (1, .int p1), (2, .int p2), (3, .int v3)] [] := by
  refine iter_rule (hd := (fun v : Int32 × St => Wk X (oM G) 7 v.2 17 [(0, .ref (al (oM G) 0)), (1, .int p1), (2, .int p2), (3, .int v.1)] [])) (ex := (fun v : Int32 × St => Wk X (oM G) 7 v.2 145 [(0, .ref (al (oM G) 0)), (1, .int p1), (2, .int p2), (3, .int v.1)] [])) ?_ n (v3, st) q hq kx
  rintro ⟨v3, st⟩ oo hbv K
  show Wk X (oM G) 7 st 17 [(0, .ref (al (oM G) 0)), (1, .int p1), (2, .int p2), (3, .int v3)] []
  have hf : l_X6_passes_17 p1 p2 v3 st = some oo := hbv
  unfold l_X6_passes_17 at hf
  refine k_iload_n (pc' := 18) h dX6_passes_17 rfl rfl 3 rfl ?_
  refine k_aload_n (pc' := 19) h dX6_passes_18 rfl rfl 0 rfl ?_
  refine k_get (v := .ref (al (oM G) 2)) (pc' := 22) h dX6_passes_19 rfl bM_mo fl_X6_17 rfl ?_
  refine k_iload_n (pc' := 23) h dX6_passes_22 rfl rfl 1 rfl ?_
  have g4 := gd_1 hf
  replace hf := gd_2 hf
  refine k_iald (pc' := 24) h dX6_passes_23 rfl aM_2 g4 ?_
  refine k_icmp_ge (tgt := 145) (pc' := 27) h dX6_passes_24 rfl rfl (fun c5 => ?_) (fun c5 => ?_)
  · replace hf := if_t c5 hf
    refine k_sub (lv' := [(0, .ref (al (oM G) 0)), (1, .int p1), (2, .int p2), (3, .int v3)]) [0, 1, 2, 3] rfl ?_
    exact lp_o hf K
  · replace hf := if_f c5 hf
    refine k_aload_n (pc' := 28) h dX6_passes_27 rfl rfl 0 rfl ?_
    refine k_iload_n (pc' := 29) h dX6_passes_28 rfl rfl 1 rfl ?_
    refine k_iload_n (pc' := 30) h dX6_passes_29 rfl rfl 3 rfl ?_
    obtain ⟨q6, hq6, hf⟩ := bd_s hf
    refine k_callV (As := [.int p1, .int v3]) (rest := []) (rv := some (.int q6.1)) (st' := q6.2) (stk' := [.int q6.1]) (pc' := 33) h dX6_passes_30 rfl ml_X6_101 wc_X6_rowAt wi_X6_rowAt ⟨Nat.le_of_ble_eq_true rfl, Nat.le_of_ble_eq_true rfl⟩ bM_mo rfl rfl rfl rfl (Nat.le_of_ble_eq_true rfl) (fun l => c_X6_rowAt l p1 v3 st  _ _ hq6) rfl ?_
    refine k_istore (lv' := [(0, .ref (al (oM G) 0)), (1, .int p1), (2, .int p2), (3, .int v3), (4, .int q6.1)]) (pc' := 35) h dX6_passes_33 rfl (Nat.le_of_ble_eq_true rfl) [1, 2, 3, 4, 0] rfl ?_
    refine k_aload_n (pc' := 36) h dX6_passes_35 rfl rfl 0 rfl ?_
    refine k_iload_n (pc' := 37) h dX6_passes_36 rfl rfl 1 rfl ?_
    refine k_iload_n (pc' := 38) h dX6_passes_37 rfl rfl 3 rfl ?_
    refine k_iconst (pc' := 39) h dX6_passes_38 rfl ci_1 ?_
    refine k_iadd (pc' := 40) h dX6_passes_39 rfl ?_
    obtain ⟨q7, hq7, hf⟩ := bd_s hf
    refine k_callV (As := [.int p1, .int (v3 + (1 : Int32))]) (rest := []) (rv := some (.int q7.1)) (st' := q7.2) (stk' := [.int q7.1]) (pc' := 43) h dX6_passes_40 rfl ml_X6_101 wc_X6_rowAt wi_X6_rowAt ⟨Nat.le_of_ble_eq_true rfl, Nat.le_of_ble_eq_true rfl⟩ bM_mo rfl rfl rfl rfl (Nat.le_of_ble_eq_true rfl) (fun l => c_X6_rowAt l p1 (v3 + (1 : Int32)) q6.2  _ _ hq7) rfl ?_
    refine k_istore (lv' := [(0, .ref (al (oM G) 0)), (1, .int p1), (2, .int p2), (3, .int v3), (4, .int q6.1), (5, .int q7.1)]) (pc' := 45) h dX6_passes_43 rfl (Nat.le_of_ble_eq_true rfl) [1, 2, 3, 4, 5, 0] rfl ?_
    refine k_iload (pc' := 47) h dX6_passes_45 rfl 5 rfl ?_
    refine k_aload_n (pc' := 48) h dX6_passes_47 rfl rfl 0 rfl ?_
    refine k_get (v := .int (q7.2.1 0 30)) (pc' := 51) h dX6_passes_48 rfl bM_mo fl_X6_232 rfl ?_
    refine k_icmp_le (tgt := 59) (pc' := 54) h dX6_passes_51 rfl rfl (fun c8 => ?_) (fun c8 => ?_)
    · replace hf := if_t c8 hf
      refine k_aload_n (pc' := 60) h dX6_passes_59 rfl rfl 0 rfl ?_
      refine k_get (v := .int (q7.2.1 0 30)) (pc' := 63) h dX6_passes_60 rfl bM_mo fl_X6_232 rfl ?_
      obtain ⟨y9, hy9, hf⟩ := lw_s hf
      refine k_eqi hy9 ?_
      refine k_istore (lv' := [(0, .ref (al (oM G) 0)), (1, .int p1), (2, .int p2), (3, .int v3), (4, .int q6.1), (5, .int q7.1), (6, .int y9)]) (pc' := 65) h dX6_passes_63 rfl (Nat.le_of_ble_eq_true rfl) [1, 2, 3, 4, 5, 6, 0] rfl ?_
      refine k_iload (pc' := 67) h dX6_passes_65 rfl 6 rfl ?_
      refine k_iload (pc' := 69) h dX6_passes_67 rfl 5 rfl ?_
      refine k_isub (pc' := 70) h dX6_passes_69 rfl ?_
      refine k_aload_n (pc' := 71) h dX6_passes_70 rfl rfl 0 rfl ?_
      refine k_get (v := .ref (al (oM G) 7)) (pc' := 74) h dX6_passes_71 rfl bM_mo fl_X6_33 rfl ?_
      refine k_iload (pc' := 76) h dX6_passes_74 rfl 4 rfl ?_
      have g10 := gd_1 hf
      replace hf := gd_2 hf
      refine k_iald (pc' := 77) h dX6_passes_76 rfl aM_7 g10 ?_
      refine k_iconst (pc' := 78) h dX6_passes_77 rfl ci_3 ?_
      refine k_icmp_ne (tgt := 86) (pc' := 81) h dX6_passes_78 rfl rfl (fun c11 => ?_) (fun c11 => ?_)
      · replace hf := if_f c11 hf
        refine k_bipush (pc' := 88) h dX6_passes_86 rfl cb_60 ?_
        refine k_icmp_le (tgt := 104) (pc' := 91) h dX6_passes_88 rfl rfl (fun c12 => ?_) (fun c12 => ?_)
        · replace hf := if_t c12 hf
          refine k_aload_n (pc' := 105) h dX6_passes_104 rfl rfl 0 rfl ?_
          refine k_iload (pc' := 107) h dX6_passes_105 rfl 6 rfl ?_
          refine k_aload_n (pc' := 108) h dX6_passes_107 rfl rfl 0 rfl ?_
          refine k_iload (pc' := 110) h dX6_passes_108 rfl 4 rfl ?_
          obtain ⟨q13, hq13, hf⟩ := bd_s hf
          refine k_callV (As := [.int q6.1]) (rest := [.int y9, .ref (al (oM G) 0)]) (rv := some (.int q13.1)) (st' := q13.2) (stk' := [.int q13.1, .int y9, .ref (al (oM G) 0)]) (pc' := 113) h dX6_passes_110 rfl ml_X6_160 wc_X6_askedIn wi_X6_askedIn ⟨Nat.le_of_ble_eq_true rfl, Nat.le_of_ble_eq_true rfl⟩ bM_mo rfl rfl rfl rfl (Nat.le_of_ble_eq_true rfl) (fun l => c_X6_askedIn l q6.1 q7.2  _ _ hq13) rfl ?_
          refine k_iadd (pc' := 114) h dX6_passes_113 rfl ?_
          refine k_put (pc' := 117) h dX6_passes_114 rfl bM_mo fp_X6_232 sf_mo_30 sj_mo_30 ?_
          obtain ⟨s14, hs14, hf⟩ := ls_s hf
          refine k_st hs14 ?_
          refine k_aload_n (pc' := 118) h dX6_passes_117 rfl rfl 0 rfl ?_
          refine k_dup (pc' := 119) h dX6_passes_118 rfl rfl ?_
          refine k_get (v := .int (s14.1 0 29)) (pc' := 122) h dX6_passes_119 rfl bM_mo fl_X6_229 rfl ?_
          refine k_aload_n (pc' := 123) h dX6_passes_122 rfl rfl 0 rfl ?_
          refine k_get (v := .int (s14.1 0 30)) (pc' := 126) h dX6_passes_123 rfl bM_mo fl_X6_232 rfl ?_
          refine k_iload_n (pc' := 127) h dX6_passes_126 rfl rfl 2 rfl ?_
          refine k_icmp_gt (tgt := 134) (pc' := 130) h dX6_passes_127 rfl rfl (fun c15 => ?_) (fun c15 => ?_)
          · replace hf := if_t c15 hf
            refine k_iconst (pc' := 135) h dX6_passes_134 rfl ci_0 ?_
            refine k_iadd (pc' := 136) h dX6_passes_135 rfl ?_
            refine k_put (pc' := 139) h dX6_passes_136 rfl bM_mo fp_X6_229 sf_mo_29 sj_mo_29 ?_
            obtain ⟨s16, hs16, hf⟩ := ls_s hf
            refine k_st hs16 ?_
            refine k_iinc (lv' := [(0, .ref (al (oM G) 0)), (1, .int p1), (2, .int p2), (3, .int (v3 + (2 : Int32))), (4, .int q6.1), (5, .int q7.1), (6, .int y9)]) (pc' := 142) h dX6_passes_139 rfl 3 rfl (congrArg (fun z => v3 + z) ci_2) (Nat.le_of_ble_eq_true rfl) [1, 2, 3, 0, 4, 5, 6] rfl ?_
            refine k_goto (tgt := 17) h dX6_passes_142 rfl ?_
            refine k_sub (lv' := [(0, .ref (al (oM G) 0)), (1, .int p1), (2, .int p2), (3, .int (v3 + (2 : Int32)))]) [0, 1, 2, 3] rfl ?_
            exact lp_o hf K
          · replace hf := if_f c15 hf
            refine k_iconst (pc' := 131) h dX6_passes_130 rfl ci_1 ?_
            refine k_goto (tgt := 135) h dX6_passes_131 rfl ?_
            refine k_iadd (pc' := 136) h dX6_passes_135 rfl ?_
            refine k_put (pc' := 139) h dX6_passes_136 rfl bM_mo fp_X6_229 sf_mo_29 sj_mo_29 ?_
            obtain ⟨s17, hs17, hf⟩ := ls_s hf
            refine k_st hs17 ?_
            refine k_iinc (lv' := [(0, .ref (al (oM G) 0)), (1, .int p1), (2, .int p2), (3, .int (v3 + (2 : Int32))), (4, .int q6.1), (5, .int q7.1), (6, .int y9)]) (pc' := 142) h dX6_passes_139 rfl 3 rfl (congrArg (fun z => v3 + z) ci_2) (Nat.le_of_ble_eq_true rfl) [1, 2, 3, 0, 4, 5, 6] rfl ?_
            refine k_goto (tgt := 17) h dX6_passes_142 rfl ?_
            refine k_sub (lv' := [(0, .ref (al (oM G) 0)), (1, .int p1), (2, .int p2), (3, .int (v3 + (2 : Int32)))]) [0, 1, 2, 3] rfl ?_
            exact lp_o hf K
        · replace hf := if_f c12 hf
          refine k_aload_n (pc' := 92) h dX6_passes_91 rfl rfl 0 rfl ?_
          refine k_dup (pc' := 93) h dX6_passes_92 rfl rfl ?_
          refine k_get (v := .int (q7.2.1 0 28)) (pc' := 96) h dX6_passes_93 rfl bM_mo fl_X6_226 rfl ?_
          refine k_iconst (pc' := 97) h dX6_passes_96 rfl ci_1 ?_
          refine k_iadd (pc' := 98) h dX6_passes_97 rfl ?_
          refine k_put (pc' := 101) h dX6_passes_98 rfl bM_mo fp_X6_226 sf_mo_28 sj_mo_28 ?_
          obtain ⟨s18, hs18, hf⟩ := ls_s hf
          refine k_st hs18 ?_
          refine k_goto (tgt := 139) h dX6_passes_101 rfl ?_
          refine k_iinc (lv' := [(0, .ref (al (oM G) 0)), (1, .int p1), (2, .int p2), (3, .int (v3 + (2 : Int32))), (4, .int q6.1), (5, .int q7.1), (6, .int y9)]) (pc' := 142) h dX6_passes_139 rfl 3 rfl (congrArg (fun z => v3 + z) ci_2) (Nat.le_of_ble_eq_true rfl) [1, 2, 3, 0, 4, 5, 6] rfl ?_
          refine k_goto (tgt := 17) h dX6_passes_142 rfl ?_
          refine k_sub (lv' := [(0, .ref (al (oM G) 0)), (1, .int p1), (2, .int p2), (3, .int (v3 + (2 : Int32)))]) [0, 1, 2, 3] rfl ?_
          exact lp_o hf K
      · replace hf := if_t c11 hf
        refine k_bipush (pc' := 83) h dX6_passes_81 rfl cb_20 ?_
        refine k_goto (tgt := 88) h dX6_passes_83 rfl ?_
        refine k_icmp_le (tgt := 104) (pc' := 91) h dX6_passes_88 rfl rfl (fun c19 => ?_) (fun c19 => ?_)
        · replace hf := if_t c19 hf
          refine k_aload_n (pc' := 105) h dX6_passes_104 rfl rfl 0 rfl ?_
          refine k_iload (pc' := 107) h dX6_passes_105 rfl 6 rfl ?_
          refine k_aload_n (pc' := 108) h dX6_passes_107 rfl rfl 0 rfl ?_
          refine k_iload (pc' := 110) h dX6_passes_108 rfl 4 rfl ?_
          obtain ⟨q20, hq20, hf⟩ := bd_s hf
          refine k_callV (As := [.int q6.1]) (rest := [.int y9, .ref (al (oM G) 0)]) (rv := some (.int q20.1)) (st' := q20.2) (stk' := [.int q20.1, .int y9, .ref (al (oM G) 0)]) (pc' := 113) h dX6_passes_110 rfl ml_X6_160 wc_X6_askedIn wi_X6_askedIn ⟨Nat.le_of_ble_eq_true rfl, Nat.le_of_ble_eq_true rfl⟩ bM_mo rfl rfl rfl rfl (Nat.le_of_ble_eq_true rfl) (fun l => c_X6_askedIn l q6.1 q7.2  _ _ hq20) rfl ?_
          refine k_iadd (pc' := 114) h dX6_passes_113 rfl ?_
          refine k_put (pc' := 117) h dX6_passes_114 rfl bM_mo fp_X6_232 sf_mo_30 sj_mo_30 ?_
          obtain ⟨s21, hs21, hf⟩ := ls_s hf
          refine k_st hs21 ?_
          refine k_aload_n (pc' := 118) h dX6_passes_117 rfl rfl 0 rfl ?_
          refine k_dup (pc' := 119) h dX6_passes_118 rfl rfl ?_
          refine k_get (v := .int (s21.1 0 29)) (pc' := 122) h dX6_passes_119 rfl bM_mo fl_X6_229 rfl ?_
          refine k_aload_n (pc' := 123) h dX6_passes_122 rfl rfl 0 rfl ?_
          refine k_get (v := .int (s21.1 0 30)) (pc' := 126) h dX6_passes_123 rfl bM_mo fl_X6_232 rfl ?_
          refine k_iload_n (pc' := 127) h dX6_passes_126 rfl rfl 2 rfl ?_
          refine k_icmp_gt (tgt := 134) (pc' := 130) h dX6_passes_127 rfl rfl (fun c22 => ?_) (fun c22 => ?_)
          · replace hf := if_t c22 hf
            refine k_iconst (pc' := 135) h dX6_passes_134 rfl ci_0 ?_
            refine k_iadd (pc' := 136) h dX6_passes_135 rfl ?_
            refine k_put (pc' := 139) h dX6_passes_136 rfl bM_mo fp_X6_229 sf_mo_29 sj_mo_29 ?_
            obtain ⟨s23, hs23, hf⟩ := ls_s hf
            refine k_st hs23 ?_
            refine k_iinc (lv' := [(0, .ref (al (oM G) 0)), (1, .int p1), (2, .int p2), (3, .int (v3 + (2 : Int32))), (4, .int q6.1), (5, .int q7.1), (6, .int y9)]) (pc' := 142) h dX6_passes_139 rfl 3 rfl (congrArg (fun z => v3 + z) ci_2) (Nat.le_of_ble_eq_true rfl) [1, 2, 3, 0, 4, 5, 6] rfl ?_
            refine k_goto (tgt := 17) h dX6_passes_142 rfl ?_
            refine k_sub (lv' := [(0, .ref (al (oM G) 0)), (1, .int p1), (2, .int p2), (3, .int (v3 + (2 : Int32)))]) [0, 1, 2, 3] rfl ?_
            exact lp_o hf K
          · replace hf := if_f c22 hf
            refine k_iconst (pc' := 131) h dX6_passes_130 rfl ci_1 ?_
            refine k_goto (tgt := 135) h dX6_passes_131 rfl ?_
            refine k_iadd (pc' := 136) h dX6_passes_135 rfl ?_
            refine k_put (pc' := 139) h dX6_passes_136 rfl bM_mo fp_X6_229 sf_mo_29 sj_mo_29 ?_
            obtain ⟨s24, hs24, hf⟩ := ls_s hf
            refine k_st hs24 ?_
            refine k_iinc (lv' := [(0, .ref (al (oM G) 0)), (1, .int p1), (2, .int p2), (3, .int (v3 + (2 : Int32))), (4, .int q6.1), (5, .int q7.1), (6, .int y9)]) (pc' := 142) h dX6_passes_139 rfl 3 rfl (congrArg (fun z => v3 + z) ci_2) (Nat.le_of_ble_eq_true rfl) [1, 2, 3, 0, 4, 5, 6] rfl ?_
            refine k_goto (tgt := 17) h dX6_passes_142 rfl ?_
            refine k_sub (lv' := [(0, .ref (al (oM G) 0)), (1, .int p1), (2, .int p2), (3, .int (v3 + (2 : Int32)))]) [0, 1, 2, 3] rfl ?_
            exact lp_o hf K
        · replace hf := if_f c19 hf
          refine k_aload_n (pc' := 92) h dX6_passes_91 rfl rfl 0 rfl ?_
          refine k_dup (pc' := 93) h dX6_passes_92 rfl rfl ?_
          refine k_get (v := .int (q7.2.1 0 28)) (pc' := 96) h dX6_passes_93 rfl bM_mo fl_X6_226 rfl ?_
          refine k_iconst (pc' := 97) h dX6_passes_96 rfl ci_1 ?_
          refine k_iadd (pc' := 98) h dX6_passes_97 rfl ?_
          refine k_put (pc' := 101) h dX6_passes_98 rfl bM_mo fp_X6_226 sf_mo_28 sj_mo_28 ?_
          obtain ⟨s25, hs25, hf⟩ := ls_s hf
          refine k_st hs25 ?_
          refine k_goto (tgt := 139) h dX6_passes_101 rfl ?_
          refine k_iinc (lv' := [(0, .ref (al (oM G) 0)), (1, .int p1), (2, .int p2), (3, .int (v3 + (2 : Int32))), (4, .int q6.1), (5, .int q7.1), (6, .int y9)]) (pc' := 142) h dX6_passes_139 rfl 3 rfl (congrArg (fun z => v3 + z) ci_2) (Nat.le_of_ble_eq_true rfl) [1, 2, 3, 0, 4, 5, 6] rfl ?_
          refine k_goto (tgt := 17) h dX6_passes_142 rfl ?_
          refine k_sub (lv' := [(0, .ref (al (oM G) 0)), (1, .int p1), (2, .int p2), (3, .int (v3 + (2 : Int32)))]) [0, 1, 2, 3] rfl ?_
          exact lp_o hf K
    · replace hf := if_f c8 hf
      refine k_iload (pc' := 56) h dX6_passes_54 rfl 5 rfl ?_
      refine k_goto (tgt := 63) h dX6_passes_56 rfl ?_
      refine k_istore (lv' := [(0, .ref (al (oM G) 0)), (1, .int p1), (2, .int p2), (3, .int v3), (4, .int q6.1), (5, .int q7.1), (6, .int q7.1)]) (pc' := 65) h dX6_passes_63 rfl (Nat.le_of_ble_eq_true rfl) [1, 2, 3, 4, 5, 6, 0] rfl ?_
      refine k_iload (pc' := 67) h dX6_passes_65 rfl 6 rfl ?_
      refine k_iload (pc' := 69) h dX6_passes_67 rfl 5 rfl ?_
      refine k_isub (pc' := 70) h dX6_passes_69 rfl ?_
      refine k_aload_n (pc' := 71) h dX6_passes_70 rfl rfl 0 rfl ?_
      refine k_get (v := .ref (al (oM G) 7)) (pc' := 74) h dX6_passes_71 rfl bM_mo fl_X6_33 rfl ?_
      refine k_iload (pc' := 76) h dX6_passes_74 rfl 4 rfl ?_
      have g26 := gd_1 hf
      replace hf := gd_2 hf
      refine k_iald (pc' := 77) h dX6_passes_76 rfl aM_7 g26 ?_
      refine k_iconst (pc' := 78) h dX6_passes_77 rfl ci_3 ?_
      refine k_icmp_ne (tgt := 86) (pc' := 81) h dX6_passes_78 rfl rfl (fun c27 => ?_) (fun c27 => ?_)
      · replace hf := if_f c27 hf
        refine k_bipush (pc' := 88) h dX6_passes_86 rfl cb_60 ?_
        refine k_icmp_le (tgt := 104) (pc' := 91) h dX6_passes_88 rfl rfl (fun c28 => ?_) (fun c28 => ?_)
        · replace hf := if_t c28 hf
          refine k_aload_n (pc' := 105) h dX6_passes_104 rfl rfl 0 rfl ?_
          refine k_iload (pc' := 107) h dX6_passes_105 rfl 6 rfl ?_
          refine k_aload_n (pc' := 108) h dX6_passes_107 rfl rfl 0 rfl ?_
          refine k_iload (pc' := 110) h dX6_passes_108 rfl 4 rfl ?_
          obtain ⟨q29, hq29, hf⟩ := bd_s hf
          refine k_callV (As := [.int q6.1]) (rest := [.int q7.1, .ref (al (oM G) 0)]) (rv := some (.int q29.1)) (st' := q29.2) (stk' := [.int q29.1, .int q7.1, .ref (al (oM G) 0)]) (pc' := 113) h dX6_passes_110 rfl ml_X6_160 wc_X6_askedIn wi_X6_askedIn ⟨Nat.le_of_ble_eq_true rfl, Nat.le_of_ble_eq_true rfl⟩ bM_mo rfl rfl rfl rfl (Nat.le_of_ble_eq_true rfl) (fun l => c_X6_askedIn l q6.1 q7.2  _ _ hq29) rfl ?_
          refine k_iadd (pc' := 114) h dX6_passes_113 rfl ?_
          refine k_put (pc' := 117) h dX6_passes_114 rfl bM_mo fp_X6_232 sf_mo_30 sj_mo_30 ?_
          obtain ⟨s30, hs30, hf⟩ := ls_s hf
          refine k_st hs30 ?_
          refine k_aload_n (pc' := 118) h dX6_passes_117 rfl rfl 0 rfl ?_
          refine k_dup (pc' := 119) h dX6_passes_118 rfl rfl ?_
          refine k_get (v := .int (s30.1 0 29)) (pc' := 122) h dX6_passes_119 rfl bM_mo fl_X6_229 rfl ?_
          refine k_aload_n (pc' := 123) h dX6_passes_122 rfl rfl 0 rfl ?_
          refine k_get (v := .int (s30.1 0 30)) (pc' := 126) h dX6_passes_123 rfl bM_mo fl_X6_232 rfl ?_
          refine k_iload_n (pc' := 127) h dX6_passes_126 rfl rfl 2 rfl ?_
          refine k_icmp_gt (tgt := 134) (pc' := 130) h dX6_passes_127 rfl rfl (fun c31 => ?_) (fun c31 => ?_)
          · replace hf := if_t c31 hf
            refine k_iconst (pc' := 135) h dX6_passes_134 rfl ci_0 ?_
            refine k_iadd (pc' := 136) h dX6_passes_135 rfl ?_
            refine k_put (pc' := 139) h dX6_passes_136 rfl bM_mo fp_X6_229 sf_mo_29 sj_mo_29 ?_
            obtain ⟨s32, hs32, hf⟩ := ls_s hf
            refine k_st hs32 ?_
            refine k_iinc (lv' := [(0, .ref (al (oM G) 0)), (1, .int p1), (2, .int p2), (3, .int (v3 + (2 : Int32))), (4, .int q6.1), (5, .int q7.1), (6, .int q7.1)]) (pc' := 142) h dX6_passes_139 rfl 3 rfl (congrArg (fun z => v3 + z) ci_2) (Nat.le_of_ble_eq_true rfl) [1, 2, 3, 0, 4, 5, 6] rfl ?_
            refine k_goto (tgt := 17) h dX6_passes_142 rfl ?_
            refine k_sub (lv' := [(0, .ref (al (oM G) 0)), (1, .int p1), (2, .int p2), (3, .int (v3 + (2 : Int32)))]) [0, 1, 2, 3] rfl ?_
            exact lp_o hf K
          · replace hf := if_f c31 hf
            refine k_iconst (pc' := 131) h dX6_passes_130 rfl ci_1 ?_
            refine k_goto (tgt := 135) h dX6_passes_131 rfl ?_
            refine k_iadd (pc' := 136) h dX6_passes_135 rfl ?_
            refine k_put (pc' := 139) h dX6_passes_136 rfl bM_mo fp_X6_229 sf_mo_29 sj_mo_29 ?_
            obtain ⟨s33, hs33, hf⟩ := ls_s hf
            refine k_st hs33 ?_
            refine k_iinc (lv' := [(0, .ref (al (oM G) 0)), (1, .int p1), (2, .int p2), (3, .int (v3 + (2 : Int32))), (4, .int q6.1), (5, .int q7.1), (6, .int q7.1)]) (pc' := 142) h dX6_passes_139 rfl 3 rfl (congrArg (fun z => v3 + z) ci_2) (Nat.le_of_ble_eq_true rfl) [1, 2, 3, 0, 4, 5, 6] rfl ?_
            refine k_goto (tgt := 17) h dX6_passes_142 rfl ?_
            refine k_sub (lv' := [(0, .ref (al (oM G) 0)), (1, .int p1), (2, .int p2), (3, .int (v3 + (2 : Int32)))]) [0, 1, 2, 3] rfl ?_
            exact lp_o hf K
        · replace hf := if_f c28 hf
          refine k_aload_n (pc' := 92) h dX6_passes_91 rfl rfl 0 rfl ?_
          refine k_dup (pc' := 93) h dX6_passes_92 rfl rfl ?_
          refine k_get (v := .int (q7.2.1 0 28)) (pc' := 96) h dX6_passes_93 rfl bM_mo fl_X6_226 rfl ?_
          refine k_iconst (pc' := 97) h dX6_passes_96 rfl ci_1 ?_
          refine k_iadd (pc' := 98) h dX6_passes_97 rfl ?_
          refine k_put (pc' := 101) h dX6_passes_98 rfl bM_mo fp_X6_226 sf_mo_28 sj_mo_28 ?_
          obtain ⟨s34, hs34, hf⟩ := ls_s hf
          refine k_st hs34 ?_
          refine k_goto (tgt := 139) h dX6_passes_101 rfl ?_
          refine k_iinc (lv' := [(0, .ref (al (oM G) 0)), (1, .int p1), (2, .int p2), (3, .int (v3 + (2 : Int32))), (4, .int q6.1), (5, .int q7.1), (6, .int q7.1)]) (pc' := 142) h dX6_passes_139 rfl 3 rfl (congrArg (fun z => v3 + z) ci_2) (Nat.le_of_ble_eq_true rfl) [1, 2, 3, 0, 4, 5, 6] rfl ?_
          refine k_goto (tgt := 17) h dX6_passes_142 rfl ?_
          refine k_sub (lv' := [(0, .ref (al (oM G) 0)), (1, .int p1), (2, .int p2), (3, .int (v3 + (2 : Int32)))]) [0, 1, 2, 3] rfl ?_
          exact lp_o hf K
      · replace hf := if_t c27 hf
        refine k_bipush (pc' := 83) h dX6_passes_81 rfl cb_20 ?_
        refine k_goto (tgt := 88) h dX6_passes_83 rfl ?_
        refine k_icmp_le (tgt := 104) (pc' := 91) h dX6_passes_88 rfl rfl (fun c35 => ?_) (fun c35 => ?_)
        · replace hf := if_t c35 hf
          refine k_aload_n (pc' := 105) h dX6_passes_104 rfl rfl 0 rfl ?_
          refine k_iload (pc' := 107) h dX6_passes_105 rfl 6 rfl ?_
          refine k_aload_n (pc' := 108) h dX6_passes_107 rfl rfl 0 rfl ?_
          refine k_iload (pc' := 110) h dX6_passes_108 rfl 4 rfl ?_
          obtain ⟨q36, hq36, hf⟩ := bd_s hf
          refine k_callV (As := [.int q6.1]) (rest := [.int q7.1, .ref (al (oM G) 0)]) (rv := some (.int q36.1)) (st' := q36.2) (stk' := [.int q36.1, .int q7.1, .ref (al (oM G) 0)]) (pc' := 113) h dX6_passes_110 rfl ml_X6_160 wc_X6_askedIn wi_X6_askedIn ⟨Nat.le_of_ble_eq_true rfl, Nat.le_of_ble_eq_true rfl⟩ bM_mo rfl rfl rfl rfl (Nat.le_of_ble_eq_true rfl) (fun l => c_X6_askedIn l q6.1 q7.2  _ _ hq36) rfl ?_
          refine k_iadd (pc' := 114) h dX6_passes_113 rfl ?_
          refine k_put (pc' := 117) h dX6_passes_114 rfl bM_mo fp_X6_232 sf_mo_30 sj_mo_30 ?_
          obtain ⟨s37, hs37, hf⟩ := ls_s hf
          refine k_st hs37 ?_
          refine k_aload_n (pc' := 118) h dX6_passes_117 rfl rfl 0 rfl ?_
          refine k_dup (pc' := 119) h dX6_passes_118 rfl rfl ?_
          refine k_get (v := .int (s37.1 0 29)) (pc' := 122) h dX6_passes_119 rfl bM_mo fl_X6_229 rfl ?_
          refine k_aload_n (pc' := 123) h dX6_passes_122 rfl rfl 0 rfl ?_
          refine k_get (v := .int (s37.1 0 30)) (pc' := 126) h dX6_passes_123 rfl bM_mo fl_X6_232 rfl ?_
          refine k_iload_n (pc' := 127) h dX6_passes_126 rfl rfl 2 rfl ?_
          refine k_icmp_gt (tgt := 134) (pc' := 130) h dX6_passes_127 rfl rfl (fun c38 => ?_) (fun c38 => ?_)
          · replace hf := if_t c38 hf
            refine k_iconst (pc' := 135) h dX6_passes_134 rfl ci_0 ?_
            refine k_iadd (pc' := 136) h dX6_passes_135 rfl ?_
            refine k_put (pc' := 139) h dX6_passes_136 rfl bM_mo fp_X6_229 sf_mo_29 sj_mo_29 ?_
            obtain ⟨s39, hs39, hf⟩ := ls_s hf
            refine k_st hs39 ?_
            refine k_iinc (lv' := [(0, .ref (al (oM G) 0)), (1, .int p1), (2, .int p2), (3, .int (v3 + (2 : Int32))), (4, .int q6.1), (5, .int q7.1), (6, .int q7.1)]) (pc' := 142) h dX6_passes_139 rfl 3 rfl (congrArg (fun z => v3 + z) ci_2) (Nat.le_of_ble_eq_true rfl) [1, 2, 3, 0, 4, 5, 6] rfl ?_
            refine k_goto (tgt := 17) h dX6_passes_142 rfl ?_
            refine k_sub (lv' := [(0, .ref (al (oM G) 0)), (1, .int p1), (2, .int p2), (3, .int (v3 + (2 : Int32)))]) [0, 1, 2, 3] rfl ?_
            exact lp_o hf K
          · replace hf := if_f c38 hf
            refine k_iconst (pc' := 131) h dX6_passes_130 rfl ci_1 ?_
            refine k_goto (tgt := 135) h dX6_passes_131 rfl ?_
            refine k_iadd (pc' := 136) h dX6_passes_135 rfl ?_
            refine k_put (pc' := 139) h dX6_passes_136 rfl bM_mo fp_X6_229 sf_mo_29 sj_mo_29 ?_
            obtain ⟨s40, hs40, hf⟩ := ls_s hf
            refine k_st hs40 ?_
            refine k_iinc (lv' := [(0, .ref (al (oM G) 0)), (1, .int p1), (2, .int p2), (3, .int (v3 + (2 : Int32))), (4, .int q6.1), (5, .int q7.1), (6, .int q7.1)]) (pc' := 142) h dX6_passes_139 rfl 3 rfl (congrArg (fun z => v3 + z) ci_2) (Nat.le_of_ble_eq_true rfl) [1, 2, 3, 0, 4, 5, 6] rfl ?_
            refine k_goto (tgt := 17) h dX6_passes_142 rfl ?_
            refine k_sub (lv' := [(0, .ref (al (oM G) 0)), (1, .int p1), (2, .int p2), (3, .int (v3 + (2 : Int32)))]) [0, 1, 2, 3] rfl ?_
            exact lp_o hf K
        · replace hf := if_f c35 hf
          refine k_aload_n (pc' := 92) h dX6_passes_91 rfl rfl 0 rfl ?_
          refine k_dup (pc' := 93) h dX6_passes_92 rfl rfl ?_
          refine k_get (v := .int (q7.2.1 0 28)) (pc' := 96) h dX6_passes_93 rfl bM_mo fl_X6_226 rfl ?_
          refine k_iconst (pc' := 97) h dX6_passes_96 rfl ci_1 ?_
          refine k_iadd (pc' := 98) h dX6_passes_97 rfl ?_
          refine k_put (pc' := 101) h dX6_passes_98 rfl bM_mo fp_X6_226 sf_mo_28 sj_mo_28 ?_
          obtain ⟨s41, hs41, hf⟩ := ls_s hf
          refine k_st hs41 ?_
          refine k_goto (tgt := 139) h dX6_passes_101 rfl ?_
          refine k_iinc (lv' := [(0, .ref (al (oM G) 0)), (1, .int p1), (2, .int p2), (3, .int (v3 + (2 : Int32))), (4, .int q6.1), (5, .int q7.1), (6, .int q7.1)]) (pc' := 142) h dX6_passes_139 rfl 3 rfl (congrArg (fun z => v3 + z) ci_2) (Nat.le_of_ble_eq_true rfl) [1, 2, 3, 0, 4, 5, 6] rfl ?_
          refine k_goto (tgt := 17) h dX6_passes_142 rfl ?_
          refine k_sub (lv' := [(0, .ref (al (oM G) 0)), (1, .int p1), (2, .int p2), (3, .int (v3 + (2 : Int32)))]) [0, 1, 2, 3] rfl ?_
          exact lp_o hf K
noncomputable def f_X6_passes (x0 : Int32) (x1 : Int32) (st : St) : Option (St) :=
  (ls (sA st 0 (upd (st.1 0) 28 (0 : Int32))) (fun s1 => (ls (sA s1 0 (upd (s1.1 0) 29 (0 : Int32))) (fun s2 => (ls (sA s2 0 (upd (s2.1 0) 30 (0 : Int32))) (fun s3 => ((iter (fun v : Int32 × St => l_X6_passes_17 x0 x1 v.1 v.2) fuel ((0 : Int32), s3)).bind (fun q42 => (some q42.2)))))))))
set_option maxHeartbeats 4000000 in
theorem c_X6_passes {G : GG} (l : Launch) (x0 : Int32) (x1 : Int32) (st : St)  (st' : St) (hf : f_X6_passes x0 x1 st = some st') : MM l yX6_passes cX6_passes 7 none 2 (oM G) [.ref (al (oM G) 0), .int x0, .int x1] st none st' := by
  refine mk_MM (by decide +kernel) (Nat.le_of_ble_eq_true rfl) (fun X h r => ?_)
  refine k_sub (lv' := [(0, .ref (al (oM G) 0)), (1, .int x0), (2, .int x1)]) [0, 1, 2] rfl ?_
  unfold f_X6_passes at hf
  refine k_aload_n (pc' := 1) h dX6_passes_0 rfl rfl 0 rfl ?_
  refine k_iconst (pc' := 2) h dX6_passes_1 rfl ci_0 ?_
  refine k_put (pc' := 5) h dX6_passes_2 rfl bM_mo fp_X6_226 sf_mo_28 sj_mo_28 ?_
  obtain ⟨s1, hs1, hf⟩ := ls_s hf
  refine k_st hs1 ?_
  refine k_aload_n (pc' := 6) h dX6_passes_5 rfl rfl 0 rfl ?_
  refine k_iconst (pc' := 7) h dX6_passes_6 rfl ci_0 ?_
  refine k_put (pc' := 10) h dX6_passes_7 rfl bM_mo fp_X6_229 sf_mo_29 sj_mo_29 ?_
  obtain ⟨s2, hs2, hf⟩ := ls_s hf
  refine k_st hs2 ?_
  refine k_aload_n (pc' := 11) h dX6_passes_10 rfl rfl 0 rfl ?_
  refine k_iconst (pc' := 12) h dX6_passes_11 rfl ci_0 ?_
  refine k_put (pc' := 15) h dX6_passes_12 rfl bM_mo fp_X6_232 sf_mo_30 sj_mo_30 ?_
  obtain ⟨s3, hs3, hf⟩ := ls_s hf
  refine k_st hs3 ?_
  refine k_iconst (pc' := 16) h dX6_passes_15 rfl ci_0 ?_
  refine k_istore_n (lv' := [(0, .ref (al (oM G) 0)), (1, .int x0), (2, .int x1), (3, .int (0 : Int32))]) (pc' := 17) h dX6_passes_16 rfl rfl (Nat.le_of_ble_eq_true rfl) [1, 2, 3, 0] rfl ?_
  obtain ⟨q42, hq42, hf⟩ := bd_s hf
  refine w_X6_passes_17 h x0 x1  fuel (0 : Int32) s3 q42 hq42 ?_
  exact k_vret h r dX6_passes_145 (lf_v hf)
noncomputable def f_X6_queue (x0 : Int32) (st : St) : Option (Int32 × St) :=
  ((f_X6_needQueue x0 (1 : Int32) st).bind (fun q1 => (if 0 ≤ q1.1 then ((f_X6_passes x0 (9999 : Int32) q1.2).bind (fun q3 => ((f_X6_tells (q3.1 0 30) (q3.1 0 28) q3).bind (fun q4 => (some (q4.1, q4.2)))))) else (some (q1.1, q1.2)))))
set_option maxHeartbeats 4000000 in
theorem c_X6_queue {G : GG} (l : Launch) (x0 : Int32) (st : St)  (rr : Int32) (st' : St) (hf : f_X6_queue x0 st = some (rr, st')) : MM l yX6_queue cX6_queue 3 (some .int) 3 (oM G) [.ref (al (oM G) 0), .int x0] st (some (.int rr)) st' := by
  refine mk_MM (by decide +kernel) (Nat.le_of_ble_eq_true rfl) (fun X h r => ?_)
  refine k_sub (lv' := [(0, .ref (al (oM G) 0)), (1, .int x0)]) [0, 1] rfl ?_
  unfold f_X6_queue at hf
  refine k_aload_n (pc' := 1) h dX6_queue_0 rfl rfl 0 rfl ?_
  refine k_iload_n (pc' := 2) h dX6_queue_1 rfl rfl 1 rfl ?_
  refine k_iconst (pc' := 3) h dX6_queue_2 rfl ci_1 ?_
  obtain ⟨q1, hq1, hf⟩ := bd_s hf
  refine k_callV (As := [.int x0, .int (1 : Int32)]) (rest := []) (rv := some (.int q1.1)) (st' := q1.2) (stk' := [.int q1.1]) (pc' := 6) h dX6_queue_3 rfl ml_X6_235 wc_X6_needQueue wi_X6_needQueue ⟨Nat.le_of_ble_eq_true rfl, Nat.le_of_ble_eq_true rfl⟩ bM_mo rfl rfl rfl rfl (Nat.le_of_ble_eq_true rfl) (fun l => c_X6_needQueue l x0 (1 : Int32) st  _ _ hq1) rfl ?_
  refine k_istore_n (lv' := [(0, .ref (al (oM G) 0)), (1, .int x0), (2, .int q1.1)]) (pc' := 7) h dX6_queue_6 rfl rfl (Nat.le_of_ble_eq_true rfl) [1, 2, 0] rfl ?_
  refine k_iload_n (pc' := 8) h dX6_queue_7 rfl rfl 2 rfl ?_
  refine k_if_ge (tgt := 13) (pc' := 11) h dX6_queue_8 rfl rfl (fun c2 => ?_) (fun c2 => ?_)
  · replace hf := if_t c2 hf
    refine k_aload_n (pc' := 14) h dX6_queue_13 rfl rfl 0 rfl ?_
    refine k_iload_n (pc' := 15) h dX6_queue_14 rfl rfl 1 rfl ?_
    refine k_sipush (pc' := 18) h dX6_queue_15 rfl cs_9999 ?_
    obtain ⟨q3, hq3, hf⟩ := bd_s hf
    refine k_callV (As := [.int x0, .int (9999 : Int32)]) (rest := []) (rv := none) (st' := q3) (stk' := []) (pc' := 21) h dX6_queue_18 rfl ml_X6_239 wc_X6_passes wi_X6_passes ⟨Nat.le_of_ble_eq_true rfl, Nat.le_of_ble_eq_true rfl⟩ bM_mo rfl rfl rfl rfl (Nat.le_of_ble_eq_true rfl) (fun l => c_X6_passes l x0 (9999 : Int32) q1.2  _ hq3) rfl ?_
    refine k_aload_n (pc' := 22) h dX6_queue_21 rfl rfl 0 rfl ?_
    refine k_aload_n (pc' := 23) h dX6_queue_22 rfl rfl 0 rfl ?_
    refine k_get (v := .int (q3.1 0 30)) (pc' := 26) h dX6_queue_23 rfl bM_mo fl_X6_232 rfl ?_
    refine k_aload_n (pc' := 27) h dX6_queue_26 rfl rfl 0 rfl ?_
    refine k_get (v := .int (q3.1 0 28)) (pc' := 30) h dX6_queue_27 rfl bM_mo fl_X6_226 rfl ?_
    obtain ⟨q4, hq4, hf⟩ := bd_s hf
    refine k_callV (As := [.int (q3.1 0 30), .int (q3.1 0 28)]) (rest := []) (rv := some (.int q4.1)) (st' := q4.2) (stk' := [.int q4.1]) (pc' := 33) h dX6_queue_30 rfl ml_X6_105 wc_X6_tells wi_X6_tells ⟨Nat.le_of_ble_eq_true rfl, Nat.le_of_ble_eq_true rfl⟩ bM_mo rfl rfl rfl rfl (Nat.le_of_ble_eq_true rfl) (fun l => c_X6_tells l (q3.1 0 30) (q3.1 0 28) q3  _ _ hq4) rfl ?_
    exact k_iret h r dX6_queue_33 (lf_i hf)
  · replace hf := if_f c2 hf
    refine k_iload_n (pc' := 12) h dX6_queue_11 rfl rfl 2 rfl ?_
    exact k_iret h r dX6_queue_12 (lf_i hf)
noncomputable def f_X6_by (x0 : Int32) (x1 : Int32) (st : St) : Option (Int32 × St) :=
  ((f_X6_in x1 (0 : Int32) (9999 : Int32) st).bind (fun q1 => ((f_X6_needQueue x0 q1.1 q1.2).bind (fun q2 => (if 0 ≤ q2.1 then ((f_X6_passes x0 x1 q2.2).bind (fun q4 => (some (q4.1 0 29, q4)))) else (some (q2.1, q2.2)))))))
set_option maxHeartbeats 4000000 in
theorem c_X6_by {G : GG} (l : Launch) (x0 : Int32) (x1 : Int32) (st : St)  (rr : Int32) (st' : St) (hf : f_X6_by x0 x1 st = some (rr, st')) : MM l yX6_by cX6_by 4 (some .int) 3 (oM G) [.ref (al (oM G) 0), .int x0, .int x1] st (some (.int rr)) st' := by
  refine mk_MM (by decide +kernel) (Nat.le_of_ble_eq_true rfl) (fun X h r => ?_)
  refine k_sub (lv' := [(0, .ref (al (oM G) 0)), (1, .int x0), (2, .int x1)]) [0, 1, 2] rfl ?_
  unfold f_X6_by at hf
  refine k_aload_n (pc' := 1) h dX6_by_0 rfl rfl 0 rfl ?_
  refine k_iload_n (pc' := 2) h dX6_by_1 rfl rfl 1 rfl ?_
  refine k_iload_n (pc' := 3) h dX6_by_2 rfl rfl 2 rfl ?_
  refine k_iconst (pc' := 4) h dX6_by_3 rfl ci_0 ?_
  refine k_sipush (pc' := 7) h dX6_by_4 rfl cs_9999 ?_
  obtain ⟨q1, hq1, hf⟩ := bd_s hf
  refine k_callS (As := [.int x1, .int (0 : Int32), .int (9999 : Int32)]) (rest := [.int x0, .ref (al (oM G) 0)]) (rv := some (.int q1.1)) (st' := q1.2) (stk' := [.int q1.1, .int x0, .ref (al (oM G) 0)]) (pc' := 10) h dX6_by_7 rfl ml_X6_83 wc_X6_in ws_X6_in ⟨Nat.le_of_ble_eq_true rfl, Nat.le_of_ble_eq_true rfl⟩ rfl rfl (Nat.le_of_ble_eq_true rfl) (fun l => c_X6_in l x1 (0 : Int32) (9999 : Int32) st  _ _ hq1) rfl ?_
  obtain ⟨q2, hq2, hf⟩ := bd_s hf
  refine k_callV (As := [.int x0, .int q1.1]) (rest := []) (rv := some (.int q2.1)) (st' := q2.2) (stk' := [.int q2.1]) (pc' := 13) h dX6_by_10 rfl ml_X6_235 wc_X6_needQueue wi_X6_needQueue ⟨Nat.le_of_ble_eq_true rfl, Nat.le_of_ble_eq_true rfl⟩ bM_mo rfl rfl rfl rfl (Nat.le_of_ble_eq_true rfl) (fun l => c_X6_needQueue l x0 q1.1 q1.2  _ _ hq2) rfl ?_
  refine k_istore_n (lv' := [(0, .ref (al (oM G) 0)), (1, .int x0), (2, .int x1), (3, .int q2.1)]) (pc' := 14) h dX6_by_13 rfl rfl (Nat.le_of_ble_eq_true rfl) [1, 2, 3, 0] rfl ?_
  refine k_iload_n (pc' := 15) h dX6_by_14 rfl rfl 3 rfl ?_
  refine k_if_ge (tgt := 20) (pc' := 18) h dX6_by_15 rfl rfl (fun c3 => ?_) (fun c3 => ?_)
  · replace hf := if_t c3 hf
    refine k_aload_n (pc' := 21) h dX6_by_20 rfl rfl 0 rfl ?_
    refine k_iload_n (pc' := 22) h dX6_by_21 rfl rfl 1 rfl ?_
    refine k_iload_n (pc' := 23) h dX6_by_22 rfl rfl 2 rfl ?_
    obtain ⟨q4, hq4, hf⟩ := bd_s hf
    refine k_callV (As := [.int x0, .int x1]) (rest := []) (rv := none) (st' := q4) (stk' := []) (pc' := 26) h dX6_by_23 rfl ml_X6_239 wc_X6_passes wi_X6_passes ⟨Nat.le_of_ble_eq_true rfl, Nat.le_of_ble_eq_true rfl⟩ bM_mo rfl rfl rfl rfl (Nat.le_of_ble_eq_true rfl) (fun l => c_X6_passes l x0 x1 q2.2  _ hq4) rfl ?_
    refine k_aload_n (pc' := 27) h dX6_by_26 rfl rfl 0 rfl ?_
    refine k_get (v := .int (q4.1 0 29)) (pc' := 30) h dX6_by_27 rfl bM_mo fl_X6_229 rfl ?_
    exact k_iret h r dX6_by_30 (lf_i hf)
  · replace hf := if_f c3 hf
    refine k_iload_n (pc' := 19) h dX6_by_18 rfl rfl 3 rfl ?_
    exact k_iret h r dX6_by_19 (lf_i hf)
noncomputable def l_X6_order_30 (p1 : Int32) (p3 : Int32) (v2 : Int32) (v4 : Int32) (st : St) : Option ((Int32 × Int32 × St) ⊕ (Int32 × Int32 × St)) :=
  (if (st.1 0 10) ≤ v4 then (some (.inr (v2, v4, st))) else ((f_X6_isKnown v4 st).bind (fun q6 => (if p3 = (1 : Int32) then (if q6.1 = (1 : Int32) then (gd (inb v2 6) (ls (sA q6.2 21 (upd (q6.2.1 21) v2.toNatClampNeg v4)) (fun s13 => (some (.inl (v2 + (1 : Int32), v4 + (1 : Int32), s13)))))) else (some (.inl (v2, v4 + (1 : Int32), q6.2)))) else (if q6.1 = (0 : Int32) then (gd (inb v2 6) (ls (sA q6.2 21 (upd (q6.2.1 21) v2.toNatClampNeg v4)) (fun s10 => (some (.inl (v2 + (1 : Int32), v4 + (1 : Int32), s10)))))) else (some (.inl (v2, v4 + (1 : Int32), q6.2))))))))
set_option maxHeartbeats 4000000 in
theorem w_X6_order_30 {G : GG} {X : Cx} (h : Ok X (oM G) cX6_order RX6 6 (RM 2))  (p1 : Int32) (p3 : Int32)  (n : Nat) (v2 : Int32) (v4 : Int32) (st : St) (q : Int32 × Int32 × St) (hq : iter (fun v : Int32 × Int32 × St => l_X6_order_30 p1 p3 v.1 v.2.1 v.2.2) n (v2, v4, st) = some q) (kx : Wk X (oM G) 6 q.2.2 75 [(0, .ref (al (oM G) 0)), (1, .int p1), (2, .int q.1), (3, .int p3), (4, .int q.2.1)] []) : Wk X (oM G) 6 st 30 [(0, .ref (al (oM G) 0)), (1, .int p1), (2, .int v2), (3, .int p3), (4, .int v4)] [] := by
  refine iter_rule (hd := (fun v : Int32 × Int32 × St => Wk X (oM G) 6 v.2.2 30 [(0, .ref (al (oM G) 0)), (1, .int p1), (2, .int v.1), (3, .int p3), (4, .int v.2.1)] [])) (ex := (fun v : Int32 × Int32 × St => Wk X (oM G) 6 v.2.2 75 [(0, .ref (al (oM G) 0)), (1, .int p1), (2, .int v.1), (3, .int p3), (4, .int v.2.1)] [])) ?_ n (v2, v4, st) q hq kx
  rintro ⟨v2, v4, st⟩ oo hbv K
  show Wk X (oM G) 6 st 30 [(0, .ref (al (oM G) 0)), (1, .int p1), (2, .int v2), (3, .int p3), (4, .int v4)] []
  have hf : l_X6_order_30 p1 p3 v2 v4 st = some oo := hbv
  unfold l_X6_order_30 at hf
  refine k_iload (pc' := 32) h dX6_order_30 rfl 4 rfl ?_
  refine k_aload_n (pc' := 33) h dX6_order_32 rfl rfl 0 rfl ?_
  refine k_get (v := .int (st.1 0 10)) (pc' := 36) h dX6_order_33 rfl bM_mo fl_X6_135 rfl ?_
  refine k_icmp_ge (tgt := 75) (pc' := 39) h dX6_order_36 rfl rfl (fun c5 => ?_) (fun c5 => ?_)
  · replace hf := if_t c5 hf
    refine k_sub (lv' := [(0, .ref (al (oM G) 0)), (1, .int p1), (2, .int v2), (3, .int p3), (4, .int v4)]) [0, 1, 2, 3, 4] rfl ?_
    exact lp_o hf K
  · replace hf := if_f c5 hf
    refine k_aload_n (pc' := 40) h dX6_order_39 rfl rfl 0 rfl ?_
    refine k_iload (pc' := 42) h dX6_order_40 rfl 4 rfl ?_
    obtain ⟨q6, hq6, hf⟩ := bd_s hf
    refine k_callV (As := [.int v4]) (rest := []) (rv := some (.int q6.1)) (st' := q6.2) (stk' := [.int q6.1]) (pc' := 45) h dX6_order_42 rfl ml_X6_151 wc_X6_isKnown wi_X6_isKnown ⟨Nat.le_of_ble_eq_true rfl, Nat.le_of_ble_eq_true rfl⟩ bM_mo rfl rfl rfl rfl (Nat.le_of_ble_eq_true rfl) (fun l => c_X6_isKnown l v4 st  _ _ hq6) rfl ?_
    refine k_iload_n (pc' := 46) h dX6_order_45 rfl rfl 3 rfl ?_
    refine k_iconst (pc' := 47) h dX6_order_46 rfl ci_1 ?_
    refine k_icmp_ne (tgt := 54) (pc' := 50) h dX6_order_47 rfl rfl (fun c7 => ?_) (fun c7 => ?_)
    · replace hf := if_f c7 hf
      refine k_iconst (pc' := 55) h dX6_order_54 rfl ci_0 ?_
      refine k_icmp_ne (tgt := 69) (pc' := 58) h dX6_order_55 rfl rfl (fun c8 => ?_) (fun c8 => ?_)
      · replace hf := if_f c8 hf
        refine k_iinc (lv' := [(0, .ref (al (oM G) 0)), (1, .int p1), (2, .int v2), (3, .int p3), (4, .int (v4 + (1 : Int32)))]) (pc' := 72) h dX6_order_69 rfl 4 rfl (congrArg (fun z => v4 + z) ci_1) (Nat.le_of_ble_eq_true rfl) [1, 2, 3, 4, 0] rfl ?_
        refine k_goto (tgt := 30) h dX6_order_72 rfl ?_
        refine k_sub (lv' := [(0, .ref (al (oM G) 0)), (1, .int p1), (2, .int v2), (3, .int p3), (4, .int (v4 + (1 : Int32)))]) [0, 1, 2, 3, 4] rfl ?_
        exact lp_o hf K
      · replace hf := if_t c8 hf
        refine k_aload_n (pc' := 59) h dX6_order_58 rfl rfl 0 rfl ?_
        refine k_get (v := .ref (al (oM G) 21)) (pc' := 62) h dX6_order_59 rfl bM_mo fl_X6_76 rfl ?_
        refine k_iload_n (pc' := 63) h dX6_order_62 rfl rfl 2 rfl ?_
        refine k_iload (pc' := 65) h dX6_order_63 rfl 4 rfl ?_
        have g9 := gd_1 hf
        replace hf := gd_2 hf
        refine k_iast (pc' := 66) h dX6_order_65 rfl aM_21 g9 ?_
        obtain ⟨s10, hs10, hf⟩ := ls_s hf
        refine k_st hs10 ?_
        refine k_iinc (lv' := [(0, .ref (al (oM G) 0)), (1, .int p1), (2, .int (v2 + (1 : Int32))), (3, .int p3), (4, .int v4)]) (pc' := 69) h dX6_order_66 rfl 2 rfl (congrArg (fun z => v2 + z) ci_1) (Nat.le_of_ble_eq_true rfl) [1, 2, 0, 3, 4] rfl ?_
        refine k_iinc (lv' := [(0, .ref (al (oM G) 0)), (1, .int p1), (2, .int (v2 + (1 : Int32))), (3, .int p3), (4, .int (v4 + (1 : Int32)))]) (pc' := 72) h dX6_order_69 rfl 4 rfl (congrArg (fun z => v4 + z) ci_1) (Nat.le_of_ble_eq_true rfl) [1, 2, 3, 4, 0] rfl ?_
        refine k_goto (tgt := 30) h dX6_order_72 rfl ?_
        refine k_sub (lv' := [(0, .ref (al (oM G) 0)), (1, .int p1), (2, .int (v2 + (1 : Int32))), (3, .int p3), (4, .int (v4 + (1 : Int32)))]) [0, 1, 2, 3, 4] rfl ?_
        exact lp_o hf K
    · replace hf := if_t c7 hf
      refine k_iconst (pc' := 51) h dX6_order_50 rfl ci_1 ?_
      refine k_goto (tgt := 55) h dX6_order_51 rfl ?_
      refine k_icmp_ne (tgt := 69) (pc' := 58) h dX6_order_55 rfl rfl (fun c11 => ?_) (fun c11 => ?_)
      · replace hf := if_f c11 hf
        refine k_iinc (lv' := [(0, .ref (al (oM G) 0)), (1, .int p1), (2, .int v2), (3, .int p3), (4, .int (v4 + (1 : Int32)))]) (pc' := 72) h dX6_order_69 rfl 4 rfl (congrArg (fun z => v4 + z) ci_1) (Nat.le_of_ble_eq_true rfl) [1, 2, 3, 4, 0] rfl ?_
        refine k_goto (tgt := 30) h dX6_order_72 rfl ?_
        refine k_sub (lv' := [(0, .ref (al (oM G) 0)), (1, .int p1), (2, .int v2), (3, .int p3), (4, .int (v4 + (1 : Int32)))]) [0, 1, 2, 3, 4] rfl ?_
        exact lp_o hf K
      · replace hf := if_t c11 hf
        refine k_aload_n (pc' := 59) h dX6_order_58 rfl rfl 0 rfl ?_
        refine k_get (v := .ref (al (oM G) 21)) (pc' := 62) h dX6_order_59 rfl bM_mo fl_X6_76 rfl ?_
        refine k_iload_n (pc' := 63) h dX6_order_62 rfl rfl 2 rfl ?_
        refine k_iload (pc' := 65) h dX6_order_63 rfl 4 rfl ?_
        have g12 := gd_1 hf
        replace hf := gd_2 hf
        refine k_iast (pc' := 66) h dX6_order_65 rfl aM_21 g12 ?_
        obtain ⟨s13, hs13, hf⟩ := ls_s hf
        refine k_st hs13 ?_
        refine k_iinc (lv' := [(0, .ref (al (oM G) 0)), (1, .int p1), (2, .int (v2 + (1 : Int32))), (3, .int p3), (4, .int v4)]) (pc' := 69) h dX6_order_66 rfl 2 rfl (congrArg (fun z => v2 + z) ci_1) (Nat.le_of_ble_eq_true rfl) [1, 2, 0, 3, 4] rfl ?_
        refine k_iinc (lv' := [(0, .ref (al (oM G) 0)), (1, .int p1), (2, .int (v2 + (1 : Int32))), (3, .int p3), (4, .int (v4 + (1 : Int32)))]) (pc' := 72) h dX6_order_69 rfl 4 rfl (congrArg (fun z => v4 + z) ci_1) (Nat.le_of_ble_eq_true rfl) [1, 2, 3, 4, 0] rfl ?_
        refine k_goto (tgt := 30) h dX6_order_72 rfl ?_
        refine k_sub (lv' := [(0, .ref (al (oM G) 0)), (1, .int p1), (2, .int (v2 + (1 : Int32))), (3, .int p3), (4, .int (v4 + (1 : Int32)))]) [0, 1, 2, 3, 4] rfl ?_
        exact lp_o hf K
noncomputable def l_X6_order_23 (p1 : Int32) (v2 : Int32) (v3 : Int32) (st : St) : Option ((Int32 × Int32 × St) ⊕ (Int32 × Int32 × St)) :=
  (if v3 < 0 then (some (.inr (v2, v3, st))) else ((iter (fun v : Int32 × Int32 × St => l_X6_order_30 p1 v3 v.1 v.2.1 v.2.2) fuel (v2, (0 : Int32), st)).bind (fun q14 => (lw (v3 + (-1 : Int32)) (fun y15 => (some (.inl (q14.1, y15, q14.2.2))))))))
set_option maxHeartbeats 4000000 in
theorem w_X6_order_23 {G : GG} {X : Cx} (h : Ok X (oM G) cX6_order RX6 6 (RM 2))  (p1 : Int32)  (n : Nat) (v2 : Int32) (v3 : Int32) (st : St) (q : Int32 × Int32 × St) (hq : iter (fun v : Int32 × Int32 × St => l_X6_order_23 p1 v.1 v.2.1 v.2.2) n (v2, v3, st) = some q) (kx : Wk X (oM G) 6 q.2.2 81 [(0, .ref (al (oM G) 0)), (1, .int p1), (2, .int q.1), (3, .int q.2.1)] []) : Wk X (oM G) 6 st 23 [(0, .ref (al (oM G) 0)), (1, .int p1), (2, .int v2), (3, .int v3)] [] := by
  refine iter_rule (hd := (fun v : Int32 × Int32 × St => Wk X (oM G) 6 v.2.2 23 [(0, .ref (al (oM G) 0)), (1, .int p1), (2, .int v.1), (3, .int v.2.1)] [])) (ex := (fun v : Int32 × Int32 × St => Wk X (oM G) 6 v.2.2 81 [(0, .ref (al (oM G) 0)), (1, .int p1), (2, .int v.1), (3, .int v.2.1)] [])) ?_ n (v2, v3, st) q hq kx
  rintro ⟨v2, v3, st⟩ oo hbv K
  show Wk X (oM G) 6 st 23 [(0, .ref (al (oM G) 0)), (1, .int p1), (2, .int v2), (3, .int v3)] []
  have hf : l_X6_order_23 p1 v2 v3 st = some oo := hbv
  unfold l_X6_order_23 at hf
  refine k_iload_n (pc' := 24) h dX6_order_23 rfl rfl 3 rfl ?_
  refine k_if_lt (tgt := 81) (pc' := 27) h dX6_order_24 rfl rfl (fun c4 => ?_) (fun c4 => ?_)
  · replace hf := if_t c4 hf
    refine k_sub (lv' := [(0, .ref (al (oM G) 0)), (1, .int p1), (2, .int v2), (3, .int v3)]) [0, 1, 2, 3] rfl ?_
    exact lp_o hf K
  · replace hf := if_f c4 hf
    refine k_iconst (pc' := 28) h dX6_order_27 rfl ci_0 ?_
    refine k_istore (lv' := [(0, .ref (al (oM G) 0)), (1, .int p1), (2, .int v2), (3, .int v3), (4, .int (0 : Int32))]) (pc' := 30) h dX6_order_28 rfl (Nat.le_of_ble_eq_true rfl) [1, 2, 3, 4, 0] rfl ?_
    obtain ⟨q14, hq14, hf⟩ := bd_s hf
    refine w_X6_order_30 h p1 v3  fuel v2 (0 : Int32) st q14 hq14 ?_
    obtain ⟨y15, hy15, hf⟩ := lw_s hf
    refine k_iinc (lv' := [(0, .ref (al (oM G) 0)), (1, .int p1), (2, .int q14.1), (3, .int y15), (4, .int q14.2.1)]) (pc' := 78) h dX6_order_75 rfl 3 rfl ((congrArg (fun z => v3 + z) ci_m1).trans hy15) (Nat.le_of_ble_eq_true rfl) [1, 2, 3, 0, 4] rfl ?_
    refine k_goto (tgt := 23) h dX6_order_78 rfl ?_
    refine k_sub (lv' := [(0, .ref (al (oM G) 0)), (1, .int p1), (2, .int q14.1), (3, .int y15)]) [0, 1, 2, 3] rfl ?_
    exact lp_o hf K
noncomputable def l_X6_order_89 (p1 : Int32) (p2 : Int32) (v3 : Int32) (v4 : Int32) (v5 : Int32) (st : St) : Option ((Int32 × Int32 × Int32 × St) ⊕ (Int32 × Int32 × Int32 × St)) :=
  (if (st.1 0 10) ≤ v5 then (some (.inr (v3, v4, v5, st))) else (lw (v3 + v4) (fun y18 => (gd (inb v5 6) ((f_X6_isKnown (st.1 21 v5.toNatClampNeg) st).bind (fun q20 => (if q20.1 = 0 then (lw (v4 + (40 : Int32)) (fun y22 => (some (.inl (y18, y22, v5 + (1 : Int32), q20.2))))) else (lw (v4 + (9 : Int32)) (fun y23 => (some (.inl (y18, y23, v5 + (1 : Int32), q20.2))))))))))))
set_option maxHeartbeats 4000000 in
theorem w_X6_order_89 {G : GG} {X : Cx} (h : Ok X (oM G) cX6_order RX6 6 (RM 2))  (p1 : Int32) (p2 : Int32)  (n : Nat) (v3 : Int32) (v4 : Int32) (v5 : Int32) (st : St) (q : Int32 × Int32 × Int32 × St) (hq : iter (fun v : Int32 × Int32 × Int32 × St => l_X6_order_89 p1 p2 v.1 v.2.1 v.2.2.1 v.2.2.2) n (v3, v4, v5, st) = some q) (kx : Wk X (oM G) 6 q.2.2.2 135 [(0, .ref (al (oM G) 0)), (1, .int p1), (2, .int p2), (3, .int q.1), (4, .int q.2.1), (5, .int q.2.2.1)] []) : Wk X (oM G) 6 st 89 [(0, .ref (al (oM G) 0)), (1, .int p1), (2, .int p2), (3, .int v3), (4, .int v4), (5, .int v5)] [] := by
  refine iter_rule (hd := (fun v : Int32 × Int32 × Int32 × St => Wk X (oM G) 6 v.2.2.2 89 [(0, .ref (al (oM G) 0)), (1, .int p1), (2, .int p2), (3, .int v.1), (4, .int v.2.1), (5, .int v.2.2.1)] [])) (ex := (fun v : Int32 × Int32 × Int32 × St => Wk X (oM G) 6 v.2.2.2 135 [(0, .ref (al (oM G) 0)), (1, .int p1), (2, .int p2), (3, .int v.1), (4, .int v.2.1), (5, .int v.2.2.1)] [])) ?_ n (v3, v4, v5, st) q hq kx
  rintro ⟨v3, v4, v5, st⟩ oo hbv K
  show Wk X (oM G) 6 st 89 [(0, .ref (al (oM G) 0)), (1, .int p1), (2, .int p2), (3, .int v3), (4, .int v4), (5, .int v5)] []
  have hf : l_X6_order_89 p1 p2 v3 v4 v5 st = some oo := hbv
  unfold l_X6_order_89 at hf
  refine k_iload (pc' := 91) h dX6_order_89 rfl 5 rfl ?_
  refine k_aload_n (pc' := 92) h dX6_order_91 rfl rfl 0 rfl ?_
  refine k_get (v := .int (st.1 0 10)) (pc' := 95) h dX6_order_92 rfl bM_mo fl_X6_135 rfl ?_
  refine k_icmp_ge (tgt := 135) (pc' := 98) h dX6_order_95 rfl rfl (fun c17 => ?_) (fun c17 => ?_)
  · replace hf := if_t c17 hf
    refine k_sub (lv' := [(0, .ref (al (oM G) 0)), (1, .int p1), (2, .int p2), (3, .int v3), (4, .int v4), (5, .int v5)]) [0, 1, 2, 3, 4, 5] rfl ?_
    exact lp_o hf K
  · replace hf := if_f c17 hf
    refine k_iload_n (pc' := 99) h dX6_order_98 rfl rfl 3 rfl ?_
    refine k_iload (pc' := 101) h dX6_order_99 rfl 4 rfl ?_
    refine k_iadd (pc' := 102) h dX6_order_101 rfl ?_
    obtain ⟨y18, hy18, hf⟩ := lw_s hf
    refine k_eqi hy18 ?_
    refine k_istore_n (lv' := [(0, .ref (al (oM G) 0)), (1, .int p1), (2, .int p2), (3, .int y18), (4, .int v4), (5, .int v5)]) (pc' := 103) h dX6_order_102 rfl rfl (Nat.le_of_ble_eq_true rfl) [1, 2, 3, 0, 4, 5] rfl ?_
    refine k_iload (pc' := 105) h dX6_order_103 rfl 4 rfl ?_
    refine k_aload_n (pc' := 106) h dX6_order_105 rfl rfl 0 rfl ?_
    refine k_aload_n (pc' := 107) h dX6_order_106 rfl rfl 0 rfl ?_
    refine k_get (v := .ref (al (oM G) 21)) (pc' := 110) h dX6_order_107 rfl bM_mo fl_X6_76 rfl ?_
    refine k_iload (pc' := 112) h dX6_order_110 rfl 5 rfl ?_
    have g19 := gd_1 hf
    replace hf := gd_2 hf
    refine k_iald (pc' := 113) h dX6_order_112 rfl aM_21 g19 ?_
    obtain ⟨q20, hq20, hf⟩ := bd_s hf
    refine k_callV (As := [.int (st.1 21 v5.toNatClampNeg)]) (rest := [.int v4]) (rv := some (.int q20.1)) (st' := q20.2) (stk' := [.int q20.1, .int v4]) (pc' := 116) h dX6_order_113 rfl ml_X6_151 wc_X6_isKnown wi_X6_isKnown ⟨Nat.le_of_ble_eq_true rfl, Nat.le_of_ble_eq_true rfl⟩ bM_mo rfl rfl rfl rfl (Nat.le_of_ble_eq_true rfl) (fun l => c_X6_isKnown l (st.1 21 v5.toNatClampNeg) st  _ _ hq20) rfl ?_
    refine k_if_eq (tgt := 124) (pc' := 119) h dX6_order_116 rfl rfl (fun c21 => ?_) (fun c21 => ?_)
    · replace hf := if_t c21 hf
      refine k_bipush (pc' := 126) h dX6_order_124 rfl cb_40 ?_
      refine k_iadd (pc' := 127) h dX6_order_126 rfl ?_
      obtain ⟨y22, hy22, hf⟩ := lw_s hf
      refine k_eqi hy22 ?_
      refine k_istore (lv' := [(0, .ref (al (oM G) 0)), (1, .int p1), (2, .int p2), (3, .int y18), (4, .int y22), (5, .int v5)]) (pc' := 129) h dX6_order_127 rfl (Nat.le_of_ble_eq_true rfl) [1, 2, 3, 4, 0, 5] rfl ?_
      refine k_iinc (lv' := [(0, .ref (al (oM G) 0)), (1, .int p1), (2, .int p2), (3, .int y18), (4, .int y22), (5, .int (v5 + (1 : Int32)))]) (pc' := 132) h dX6_order_129 rfl 5 rfl (congrArg (fun z => v5 + z) ci_1) (Nat.le_of_ble_eq_true rfl) [1, 2, 3, 4, 5, 0] rfl ?_
      refine k_goto (tgt := 89) h dX6_order_132 rfl ?_
      refine k_sub (lv' := [(0, .ref (al (oM G) 0)), (1, .int p1), (2, .int p2), (3, .int y18), (4, .int y22), (5, .int (v5 + (1 : Int32)))]) [0, 1, 2, 3, 4, 5] rfl ?_
      exact lp_o hf K
    · replace hf := if_f c21 hf
      refine k_bipush (pc' := 121) h dX6_order_119 rfl cb_9 ?_
      refine k_goto (tgt := 126) h dX6_order_121 rfl ?_
      refine k_iadd (pc' := 127) h dX6_order_126 rfl ?_
      obtain ⟨y23, hy23, hf⟩ := lw_s hf
      refine k_eqi hy23 ?_
      refine k_istore (lv' := [(0, .ref (al (oM G) 0)), (1, .int p1), (2, .int p2), (3, .int y18), (4, .int y23), (5, .int v5)]) (pc' := 129) h dX6_order_127 rfl (Nat.le_of_ble_eq_true rfl) [1, 2, 3, 4, 0, 5] rfl ?_
      refine k_iinc (lv' := [(0, .ref (al (oM G) 0)), (1, .int p1), (2, .int p2), (3, .int y18), (4, .int y23), (5, .int (v5 + (1 : Int32)))]) (pc' := 132) h dX6_order_129 rfl 5 rfl (congrArg (fun z => v5 + z) ci_1) (Nat.le_of_ble_eq_true rfl) [1, 2, 3, 4, 5, 0] rfl ?_
      refine k_goto (tgt := 89) h dX6_order_132 rfl ?_
      refine k_sub (lv' := [(0, .ref (al (oM G) 0)), (1, .int p1), (2, .int p2), (3, .int y18), (4, .int y23), (5, .int (v5 + (1 : Int32)))]) [0, 1, 2, 3, 4, 5] rfl ?_
      exact lp_o hf K
noncomputable def f_X6_order (x0 : Int32) (st : St) : Option (Int32 × St) :=
  ((f_X6_isRow x0 st).bind (fun q1 => (if q1.1 = 0 then (some ((-1 : Int32), q1.2)) else (if (q1.2.1 0 10) = 0 then (some ((-4 : Int32), q1.2)) else ((iter (fun v : Int32 × Int32 × St => l_X6_order_23 x0 v.1 v.2.1 v.2.2) fuel ((0 : Int32), (1 : Int32), q1.2)).bind (fun q16 => ((iter (fun v : Int32 × Int32 × Int32 × St => l_X6_order_89 x0 q16.1 v.1 v.2.1 v.2.2.1 v.2.2.2) fuel ((0 : Int32), (0 : Int32), (0 : Int32), q16.2.2)).bind (fun q24 => ((f_X6_layRow x0 (q24.2.2.2.1 0 10) q24.2.2.2).bind (fun q25 => (some (q24.1, q25))))))))))))
set_option maxHeartbeats 4000000 in
theorem c_X6_order {G : GG} (l : Launch) (x0 : Int32) (st : St)  (rr : Int32) (st' : St) (hf : f_X6_order x0 st = some (rr, st')) : MM l yX6_order cX6_order 6 (some .int) 2 (oM G) [.ref (al (oM G) 0), .int x0] st (some (.int rr)) st' := by
  refine mk_MM (by decide +kernel) (Nat.le_of_ble_eq_true rfl) (fun X h r => ?_)
  refine k_sub (lv' := [(0, .ref (al (oM G) 0)), (1, .int x0)]) [0, 1] rfl ?_
  unfold f_X6_order at hf
  refine k_iload_n (pc' := 1) h dX6_order_0 rfl rfl 1 rfl ?_
  obtain ⟨q1, hq1, hf⟩ := bd_s hf
  refine k_callS (As := [.int x0]) (rest := []) (rv := some (.int q1.1)) (st' := q1.2) (stk' := [.int q1.1]) (pc' := 4) h dX6_order_1 rfl ml_X6_93 wc_X6_isRow ws_X6_isRow ⟨Nat.le_of_ble_eq_true rfl, Nat.le_of_ble_eq_true rfl⟩ rfl rfl (Nat.le_of_ble_eq_true rfl) (fun l => c_X6_isRow l x0 st  _ _ hq1) rfl ?_
  refine k_if_ne (tgt := 9) (pc' := 7) h dX6_order_4 rfl rfl (fun c2 => ?_) (fun c2 => ?_)
  · replace hf := if_f c2 hf
    refine k_aload_n (pc' := 10) h dX6_order_9 rfl rfl 0 rfl ?_
    refine k_get (v := .int (q1.2.1 0 10)) (pc' := 13) h dX6_order_10 rfl bM_mo fl_X6_135 rfl ?_
    refine k_if_ne (tgt := 19) (pc' := 16) h dX6_order_13 rfl rfl (fun c3 => ?_) (fun c3 => ?_)
    · replace hf := if_f c3 hf
      refine k_iconst (pc' := 20) h dX6_order_19 rfl ci_0 ?_
      refine k_istore_n (lv' := [(0, .ref (al (oM G) 0)), (1, .int x0), (2, .int (0 : Int32))]) (pc' := 21) h dX6_order_20 rfl rfl (Nat.le_of_ble_eq_true rfl) [1, 2, 0] rfl ?_
      refine k_iconst (pc' := 22) h dX6_order_21 rfl ci_1 ?_
      refine k_istore_n (lv' := [(0, .ref (al (oM G) 0)), (1, .int x0), (2, .int (0 : Int32)), (3, .int (1 : Int32))]) (pc' := 23) h dX6_order_22 rfl rfl (Nat.le_of_ble_eq_true rfl) [1, 2, 3, 0] rfl ?_
      obtain ⟨q16, hq16, hf⟩ := bd_s hf
      refine w_X6_order_23 h x0  fuel (0 : Int32) (1 : Int32) q1.2 q16 hq16 ?_
      refine k_iconst (pc' := 82) h dX6_order_81 rfl ci_0 ?_
      refine k_istore_n (lv' := [(0, .ref (al (oM G) 0)), (1, .int x0), (2, .int q16.1), (3, .int (0 : Int32))]) (pc' := 83) h dX6_order_82 rfl rfl (Nat.le_of_ble_eq_true rfl) [1, 2, 3, 0] rfl ?_
      refine k_iconst (pc' := 84) h dX6_order_83 rfl ci_0 ?_
      refine k_istore (lv' := [(0, .ref (al (oM G) 0)), (1, .int x0), (2, .int q16.1), (3, .int (0 : Int32)), (4, .int (0 : Int32))]) (pc' := 86) h dX6_order_84 rfl (Nat.le_of_ble_eq_true rfl) [1, 2, 3, 4, 0] rfl ?_
      refine k_iconst (pc' := 87) h dX6_order_86 rfl ci_0 ?_
      refine k_istore (lv' := [(0, .ref (al (oM G) 0)), (1, .int x0), (2, .int q16.1), (3, .int (0 : Int32)), (4, .int (0 : Int32)), (5, .int (0 : Int32))]) (pc' := 89) h dX6_order_87 rfl (Nat.le_of_ble_eq_true rfl) [1, 2, 3, 4, 5, 0] rfl ?_
      obtain ⟨q24, hq24, hf⟩ := bd_s hf
      refine w_X6_order_89 h x0 q16.1  fuel (0 : Int32) (0 : Int32) (0 : Int32) q16.2.2 q24 hq24 ?_
      refine k_aload_n (pc' := 136) h dX6_order_135 rfl rfl 0 rfl ?_
      refine k_iload_n (pc' := 137) h dX6_order_136 rfl rfl 1 rfl ?_
      refine k_aload_n (pc' := 138) h dX6_order_137 rfl rfl 0 rfl ?_
      refine k_get (v := .ref (al (oM G) 21)) (pc' := 141) h dX6_order_138 rfl bM_mo fl_X6_76 rfl ?_
      refine k_aload_n (pc' := 142) h dX6_order_141 rfl rfl 0 rfl ?_
      refine k_get (v := .int (q24.2.2.2.1 0 10)) (pc' := 145) h dX6_order_142 rfl bM_mo fl_X6_135 rfl ?_
      obtain ⟨q25, hq25, hf⟩ := bd_s hf
      refine k_callV (As := [.int x0, .ref (al (oM G) 21), .int (q24.2.2.2.1 0 10)]) (rest := []) (rv := none) (st' := q25) (stk' := []) (pc' := 148) h dX6_order_145 rfl ml_X6_243 wc_X6_layRow wi_X6_layRow ⟨Nat.le_of_ble_eq_true rfl, Nat.le_of_ble_eq_true rfl⟩ bM_mo rfl rfl rfl rfl (Nat.le_of_ble_eq_true rfl) (fun l => c_X6_layRow l x0 (q24.2.2.2.1 0 10) q24.2.2.2  _ hq25) rfl ?_
      refine k_iload_n (pc' := 149) h dX6_order_148 rfl rfl 3 rfl ?_
      exact k_iret h r dX6_order_149 (lf_i hf)
    · replace hf := if_t c3 hf
      refine k_bipush (pc' := 18) h dX6_order_16 rfl cb_m4 ?_
      exact k_iret h r dX6_order_18 (lf_i hf)
  · replace hf := if_t c2 hf
    refine k_iconst (pc' := 8) h dX6_order_7 rfl ci_m1 ?_
    exact k_iret h r dX6_order_8 (lf_i hf)
noncomputable def l_X6_weekOf_4 (p1 : Int32) (v2 : Int32) (v3 : Int32) (st : St) : Option ((Int32 × Int32 × St) ⊕ (Int32 × Int32 × St)) :=
  (if (st.1 0 10) ≤ v3 then (some (.inr (v2, v3, st))) else (gd (inb v3 6) ((f_X6_has p1 v3 st).bind (fun q3 => (if q3.1 = 0 then (lw (v2 + ((st.1 12 v3.toNatClampNeg) * (40 : Int32))) (fun y5 => (some (.inl (y5, v3 + (1 : Int32), q3.2))))) else (lw (v2 + ((st.1 12 v3.toNatClampNeg) * (9 : Int32))) (fun y6 => (some (.inl (y6, v3 + (1 : Int32), q3.2))))))))))
set_option maxHeartbeats 4000000 in
theorem w_X6_weekOf_4 {G : GG} {X : Cx} (h : Ok X (oM G) cX6_weekOf RX6 4 (RM 1))  (p1 : Int32)  (n : Nat) (v2 : Int32) (v3 : Int32) (st : St) (q : Int32 × Int32 × St) (hq : iter (fun v : Int32 × Int32 × St => l_X6_weekOf_4 p1 v.1 v.2.1 v.2.2) n (v2, v3, st) = some q) (kx : Wk X (oM G) 4 q.2.2 43 [(0, .ref (al (oM G) 0)), (1, .int p1), (2, .int q.1), (3, .int q.2.1)] []) : Wk X (oM G) 4 st 4 [(0, .ref (al (oM G) 0)), (1, .int p1), (2, .int v2), (3, .int v3)] [] := by
  refine iter_rule (hd := (fun v : Int32 × Int32 × St => Wk X (oM G) 4 v.2.2 4 [(0, .ref (al (oM G) 0)), (1, .int p1), (2, .int v.1), (3, .int v.2.1)] [])) (ex := (fun v : Int32 × Int32 × St => Wk X (oM G) 4 v.2.2 43 [(0, .ref (al (oM G) 0)), (1, .int p1), (2, .int v.1), (3, .int v.2.1)] [])) ?_ n (v2, v3, st) q hq kx
  rintro ⟨v2, v3, st⟩ oo hbv K
  show Wk X (oM G) 4 st 4 [(0, .ref (al (oM G) 0)), (1, .int p1), (2, .int v2), (3, .int v3)] []
  have hf : l_X6_weekOf_4 p1 v2 v3 st = some oo := hbv
  unfold l_X6_weekOf_4 at hf
  refine k_iload_n (pc' := 5) h dX6_weekOf_4 rfl rfl 3 rfl ?_
  refine k_aload_n (pc' := 6) h dX6_weekOf_5 rfl rfl 0 rfl ?_
  refine k_get (v := .int (st.1 0 10)) (pc' := 9) h dX6_weekOf_6 rfl bM_mo fl_X6_135 rfl ?_
  refine k_icmp_ge (tgt := 43) (pc' := 12) h dX6_weekOf_9 rfl rfl (fun c1 => ?_) (fun c1 => ?_)
  · replace hf := if_t c1 hf
    refine k_sub (lv' := [(0, .ref (al (oM G) 0)), (1, .int p1), (2, .int v2), (3, .int v3)]) [0, 1, 2, 3] rfl ?_
    exact lp_o hf K
  · replace hf := if_f c1 hf
    refine k_iload_n (pc' := 13) h dX6_weekOf_12 rfl rfl 2 rfl ?_
    refine k_aload_n (pc' := 14) h dX6_weekOf_13 rfl rfl 0 rfl ?_
    refine k_get (v := .ref (al (oM G) 12)) (pc' := 17) h dX6_weekOf_14 rfl bM_mo fl_X6_48 rfl ?_
    refine k_iload_n (pc' := 18) h dX6_weekOf_17 rfl rfl 3 rfl ?_
    have g2 := gd_1 hf
    replace hf := gd_2 hf
    refine k_iald (pc' := 19) h dX6_weekOf_18 rfl aM_12 g2 ?_
    refine k_iload_n (pc' := 20) h dX6_weekOf_19 rfl rfl 1 rfl ?_
    refine k_iload_n (pc' := 21) h dX6_weekOf_20 rfl rfl 3 rfl ?_
    obtain ⟨q3, hq3, hf⟩ := bd_s hf
    refine k_callS (As := [.int p1, .int v3]) (rest := [.int (st.1 12 v3.toNatClampNeg), .int v2]) (rv := some (.int q3.1)) (st' := q3.2) (stk' := [.int q3.1, .int (st.1 12 v3.toNatClampNeg), .int v2]) (pc' := 24) h dX6_weekOf_21 rfl ml_X6_202 wc_X6_has ws_X6_has ⟨Nat.le_of_ble_eq_true rfl, Nat.le_of_ble_eq_true rfl⟩ rfl rfl (Nat.le_of_ble_eq_true rfl) (fun l => c_X6_has l p1 v3 st  _ _ hq3) rfl ?_
    refine k_if_eq (tgt := 32) (pc' := 27) h dX6_weekOf_24 rfl rfl (fun c4 => ?_) (fun c4 => ?_)
    · replace hf := if_t c4 hf
      refine k_bipush (pc' := 34) h dX6_weekOf_32 rfl cb_40 ?_
      refine k_imul (pc' := 35) h dX6_weekOf_34 rfl ?_
      refine k_iadd (pc' := 36) h dX6_weekOf_35 rfl ?_
      obtain ⟨y5, hy5, hf⟩ := lw_s hf
      refine k_eqi hy5 ?_
      refine k_istore_n (lv' := [(0, .ref (al (oM G) 0)), (1, .int p1), (2, .int y5), (3, .int v3)]) (pc' := 37) h dX6_weekOf_36 rfl rfl (Nat.le_of_ble_eq_true rfl) [1, 2, 0, 3] rfl ?_
      refine k_iinc (lv' := [(0, .ref (al (oM G) 0)), (1, .int p1), (2, .int y5), (3, .int (v3 + (1 : Int32)))]) (pc' := 40) h dX6_weekOf_37 rfl 3 rfl (congrArg (fun z => v3 + z) ci_1) (Nat.le_of_ble_eq_true rfl) [1, 2, 3, 0] rfl ?_
      refine k_goto (tgt := 4) h dX6_weekOf_40 rfl ?_
      refine k_sub (lv' := [(0, .ref (al (oM G) 0)), (1, .int p1), (2, .int y5), (3, .int (v3 + (1 : Int32)))]) [0, 1, 2, 3] rfl ?_
      exact lp_o hf K
    · replace hf := if_f c4 hf
      refine k_bipush (pc' := 29) h dX6_weekOf_27 rfl cb_9 ?_
      refine k_goto (tgt := 34) h dX6_weekOf_29 rfl ?_
      refine k_imul (pc' := 35) h dX6_weekOf_34 rfl ?_
      refine k_iadd (pc' := 36) h dX6_weekOf_35 rfl ?_
      obtain ⟨y6, hy6, hf⟩ := lw_s hf
      refine k_eqi hy6 ?_
      refine k_istore_n (lv' := [(0, .ref (al (oM G) 0)), (1, .int p1), (2, .int y6), (3, .int v3)]) (pc' := 37) h dX6_weekOf_36 rfl rfl (Nat.le_of_ble_eq_true rfl) [1, 2, 0, 3] rfl ?_
      refine k_iinc (lv' := [(0, .ref (al (oM G) 0)), (1, .int p1), (2, .int y6), (3, .int (v3 + (1 : Int32)))]) (pc' := 40) h dX6_weekOf_37 rfl 3 rfl (congrArg (fun z => v3 + z) ci_1) (Nat.le_of_ble_eq_true rfl) [1, 2, 3, 0] rfl ?_
      refine k_goto (tgt := 4) h dX6_weekOf_40 rfl ?_
      refine k_sub (lv' := [(0, .ref (al (oM G) 0)), (1, .int p1), (2, .int y6), (3, .int (v3 + (1 : Int32)))]) [0, 1, 2, 3] rfl ?_
      exact lp_o hf K
noncomputable def f_X6_weekOf (x0 : Int32) (st : St) : Option (Int32 × St) :=
  ((iter (fun v : Int32 × Int32 × St => l_X6_weekOf_4 x0 v.1 v.2.1 v.2.2) fuel ((0 : Int32), (0 : Int32), st)).bind (fun q7 => (some (q7.1, q7.2.2))))
set_option maxHeartbeats 4000000 in
theorem c_X6_weekOf {G : GG} (l : Launch) (x0 : Int32) (st : St)  (rr : Int32) (st' : St) (hf : f_X6_weekOf x0 st = some (rr, st')) : MM l yX6_weekOf cX6_weekOf 4 (some .int) 1 (oM G) [.ref (al (oM G) 0), .int x0] st (some (.int rr)) st' := by
  refine mk_MM (by decide +kernel) (Nat.le_of_ble_eq_true rfl) (fun X h r => ?_)
  refine k_sub (lv' := [(0, .ref (al (oM G) 0)), (1, .int x0)]) [0, 1] rfl ?_
  unfold f_X6_weekOf at hf
  refine k_iconst (pc' := 1) h dX6_weekOf_0 rfl ci_0 ?_
  refine k_istore_n (lv' := [(0, .ref (al (oM G) 0)), (1, .int x0), (2, .int (0 : Int32))]) (pc' := 2) h dX6_weekOf_1 rfl rfl (Nat.le_of_ble_eq_true rfl) [1, 2, 0] rfl ?_
  refine k_iconst (pc' := 3) h dX6_weekOf_2 rfl ci_0 ?_
  refine k_istore_n (lv' := [(0, .ref (al (oM G) 0)), (1, .int x0), (2, .int (0 : Int32)), (3, .int (0 : Int32))]) (pc' := 4) h dX6_weekOf_3 rfl rfl (Nat.le_of_ble_eq_true rfl) [1, 2, 3, 0] rfl ?_
  obtain ⟨q7, hq7, hf⟩ := bd_s hf
  refine w_X6_weekOf_4 h x0  fuel (0 : Int32) (0 : Int32) st q7 hq7 ?_
  refine k_iload_n (pc' := 44) h dX6_weekOf_43 rfl rfl 2 rfl ?_
  exact k_iret h r dX6_weekOf_44 (lf_i hf)
noncomputable def l_X6_learn_28 (p1 : Int32) (v2 : Int32) (v3 : Int32) (st : St) : Option ((Int32 × Int32 × St) ⊕ (Int32 × Int32 × St)) :=
  (if ((1 : Int32) <<< ((st.1 0 10) &&& 31)) ≤ v3 then (some (.inr (v2, v3, st))) else ((f_X6_bits v3 st).bind (fun q5 => (if q5.1 = p1 then (if v2 = (-9 : Int32) then (some (.inl (v3, v3 + (1 : Int32), q5.2))) else ((f_X6_weekOf v3 q5.2).bind (fun q8 => ((f_X6_weekOf v2 q8.2).bind (fun q9 => (if q9.1 ≤ q8.1 then (some (.inl (v2, v3 + (1 : Int32), q9.2))) else (some (.inl (v3, v3 + (1 : Int32), q9.2))))))))) else (some (.inl (v2, v3 + (1 : Int32), q5.2)))))))
set_option maxHeartbeats 4000000 in
theorem w_X6_learn_28 {G : GG} {X : Cx} (h : Ok X (oM G) cX6_learn RX6 4 (RM 2))  (p1 : Int32)  (n : Nat) (v2 : Int32) (v3 : Int32) (st : St) (q : Int32 × Int32 × St) (hq : iter (fun v : Int32 × Int32 × St => l_X6_learn_28 p1 v.1 v.2.1 v.2.2) n (v2, v3, st) = some q) (kx : Wk X (oM G) 4 q.2.2 77 [(0, .ref (al (oM G) 0)), (1, .int p1), (2, .int q.1), (3, .int q.2.1)] []) : Wk X (oM G) 4 st 28 [(0, .ref (al (oM G) 0)), (1, .int p1), (2, .int v2), (3, .int v3)] [] := by
  refine iter_rule (hd := (fun v : Int32 × Int32 × St => Wk X (oM G) 4 v.2.2 28 [(0, .ref (al (oM G) 0)), (1, .int p1), (2, .int v.1), (3, .int v.2.1)] [])) (ex := (fun v : Int32 × Int32 × St => Wk X (oM G) 4 v.2.2 77 [(0, .ref (al (oM G) 0)), (1, .int p1), (2, .int v.1), (3, .int v.2.1)] [])) ?_ n (v2, v3, st) q hq kx
  rintro ⟨v2, v3, st⟩ oo hbv K
  show Wk X (oM G) 4 st 28 [(0, .ref (al (oM G) 0)), (1, .int p1), (2, .int v2), (3, .int v3)] []
  have hf : l_X6_learn_28 p1 v2 v3 st = some oo := hbv
  unfold l_X6_learn_28 at hf
  refine k_iload_n (pc' := 29) h dX6_learn_28 rfl rfl 3 rfl ?_
  refine k_iconst (pc' := 30) h dX6_learn_29 rfl ci_1 ?_
  refine k_aload_n (pc' := 31) h dX6_learn_30 rfl rfl 0 rfl ?_
  refine k_get (v := .int (st.1 0 10)) (pc' := 34) h dX6_learn_31 rfl bM_mo fl_X6_135 rfl ?_
  refine k_ishl (pc' := 35) h dX6_learn_34 rfl ?_
  refine k_icmp_ge (tgt := 77) (pc' := 38) h dX6_learn_35 rfl rfl (fun c4 => ?_) (fun c4 => ?_)
  · replace hf := if_t c4 hf
    refine k_sub (lv' := [(0, .ref (al (oM G) 0)), (1, .int p1), (2, .int v2), (3, .int v3)]) [0, 1, 2, 3] rfl ?_
    exact lp_o hf K
  · replace hf := if_f c4 hf
    refine k_iload_n (pc' := 39) h dX6_learn_38 rfl rfl 3 rfl ?_
    obtain ⟨q5, hq5, hf⟩ := bd_s hf
    refine k_callS (As := [.int v3]) (rest := []) (rv := some (.int q5.1)) (st' := q5.2) (stk' := [.int q5.1]) (pc' := 42) h dX6_learn_39 rfl ml_X6_223 wc_X6_bits ws_X6_bits ⟨Nat.le_of_ble_eq_true rfl, Nat.le_of_ble_eq_true rfl⟩ rfl rfl (Nat.le_of_ble_eq_true rfl) (fun l => c_X6_bits l v3 st  _ _ hq5) rfl ?_
    refine k_iload_n (pc' := 43) h dX6_learn_42 rfl rfl 1 rfl ?_
    refine k_icmp_ne (tgt := 69) (pc' := 46) h dX6_learn_43 rfl rfl (fun c6 => ?_) (fun c6 => ?_)
    · replace hf := if_f c6 hf
      refine k_iload_n (pc' := 70) h dX6_learn_69 rfl rfl 2 rfl ?_
      refine k_istore_n (lv' := [(0, .ref (al (oM G) 0)), (1, .int p1), (2, .int v2), (3, .int v3)]) (pc' := 71) h dX6_learn_70 rfl rfl (Nat.le_of_ble_eq_true rfl) [1, 2, 0, 3] rfl ?_
      refine k_iinc (lv' := [(0, .ref (al (oM G) 0)), (1, .int p1), (2, .int v2), (3, .int (v3 + (1 : Int32)))]) (pc' := 74) h dX6_learn_71 rfl 3 rfl (congrArg (fun z => v3 + z) ci_1) (Nat.le_of_ble_eq_true rfl) [1, 2, 3, 0] rfl ?_
      refine k_goto (tgt := 28) h dX6_learn_74 rfl ?_
      refine k_sub (lv' := [(0, .ref (al (oM G) 0)), (1, .int p1), (2, .int v2), (3, .int (v3 + (1 : Int32)))]) [0, 1, 2, 3] rfl ?_
      exact lp_o hf K
    · replace hf := if_t c6 hf
      refine k_iload_n (pc' := 47) h dX6_learn_46 rfl rfl 2 rfl ?_
      refine k_bipush (pc' := 49) h dX6_learn_47 rfl cb_m9 ?_
      refine k_icmp_eq (tgt := 65) (pc' := 52) h dX6_learn_49 rfl rfl (fun c7 => ?_) (fun c7 => ?_)
      · replace hf := if_t c7 hf
        refine k_iload_n (pc' := 66) h dX6_learn_65 rfl rfl 3 rfl ?_
        refine k_goto (tgt := 70) h dX6_learn_66 rfl ?_
        refine k_istore_n (lv' := [(0, .ref (al (oM G) 0)), (1, .int p1), (2, .int v3), (3, .int v3)]) (pc' := 71) h dX6_learn_70 rfl rfl (Nat.le_of_ble_eq_true rfl) [1, 2, 0, 3] rfl ?_
        refine k_iinc (lv' := [(0, .ref (al (oM G) 0)), (1, .int p1), (2, .int v3), (3, .int (v3 + (1 : Int32)))]) (pc' := 74) h dX6_learn_71 rfl 3 rfl (congrArg (fun z => v3 + z) ci_1) (Nat.le_of_ble_eq_true rfl) [1, 2, 3, 0] rfl ?_
        refine k_goto (tgt := 28) h dX6_learn_74 rfl ?_
        refine k_sub (lv' := [(0, .ref (al (oM G) 0)), (1, .int p1), (2, .int v3), (3, .int (v3 + (1 : Int32)))]) [0, 1, 2, 3] rfl ?_
        exact lp_o hf K
      · replace hf := if_f c7 hf
        refine k_aload_n (pc' := 53) h dX6_learn_52 rfl rfl 0 rfl ?_
        refine k_iload_n (pc' := 54) h dX6_learn_53 rfl rfl 3 rfl ?_
        obtain ⟨q8, hq8, hf⟩ := bd_s hf
        refine k_callV (As := [.int v3]) (rest := []) (rv := some (.int q8.1)) (st' := q8.2) (stk' := [.int q8.1]) (pc' := 57) h dX6_learn_54 rfl ml_X6_247 wc_X6_weekOf wi_X6_weekOf ⟨Nat.le_of_ble_eq_true rfl, Nat.le_of_ble_eq_true rfl⟩ bM_mo rfl rfl rfl rfl (Nat.le_of_ble_eq_true rfl) (fun l => c_X6_weekOf l v3 q5.2  _ _ hq8) rfl ?_
        refine k_aload_n (pc' := 58) h dX6_learn_57 rfl rfl 0 rfl ?_
        refine k_iload_n (pc' := 59) h dX6_learn_58 rfl rfl 2 rfl ?_
        obtain ⟨q9, hq9, hf⟩ := bd_s hf
        refine k_callV (As := [.int v2]) (rest := [.int q8.1]) (rv := some (.int q9.1)) (st' := q9.2) (stk' := [.int q9.1, .int q8.1]) (pc' := 62) h dX6_learn_59 rfl ml_X6_247 wc_X6_weekOf wi_X6_weekOf ⟨Nat.le_of_ble_eq_true rfl, Nat.le_of_ble_eq_true rfl⟩ bM_mo rfl rfl rfl rfl (Nat.le_of_ble_eq_true rfl) (fun l => c_X6_weekOf l v2 q8.2  _ _ hq9) rfl ?_
        refine k_icmp_ge (tgt := 69) (pc' := 65) h dX6_learn_62 rfl rfl (fun c10 => ?_) (fun c10 => ?_)
        · replace hf := if_t c10 hf
          refine k_iload_n (pc' := 70) h dX6_learn_69 rfl rfl 2 rfl ?_
          refine k_istore_n (lv' := [(0, .ref (al (oM G) 0)), (1, .int p1), (2, .int v2), (3, .int v3)]) (pc' := 71) h dX6_learn_70 rfl rfl (Nat.le_of_ble_eq_true rfl) [1, 2, 0, 3] rfl ?_
          refine k_iinc (lv' := [(0, .ref (al (oM G) 0)), (1, .int p1), (2, .int v2), (3, .int (v3 + (1 : Int32)))]) (pc' := 74) h dX6_learn_71 rfl 3 rfl (congrArg (fun z => v3 + z) ci_1) (Nat.le_of_ble_eq_true rfl) [1, 2, 3, 0] rfl ?_
          refine k_goto (tgt := 28) h dX6_learn_74 rfl ?_
          refine k_sub (lv' := [(0, .ref (al (oM G) 0)), (1, .int p1), (2, .int v2), (3, .int (v3 + (1 : Int32)))]) [0, 1, 2, 3] rfl ?_
          exact lp_o hf K
        · replace hf := if_f c10 hf
          refine k_iload_n (pc' := 66) h dX6_learn_65 rfl rfl 3 rfl ?_
          refine k_goto (tgt := 70) h dX6_learn_66 rfl ?_
          refine k_istore_n (lv' := [(0, .ref (al (oM G) 0)), (1, .int p1), (2, .int v3), (3, .int v3)]) (pc' := 71) h dX6_learn_70 rfl rfl (Nat.le_of_ble_eq_true rfl) [1, 2, 0, 3] rfl ?_
          refine k_iinc (lv' := [(0, .ref (al (oM G) 0)), (1, .int p1), (2, .int v3), (3, .int (v3 + (1 : Int32)))]) (pc' := 74) h dX6_learn_71 rfl 3 rfl (congrArg (fun z => v3 + z) ci_1) (Nat.le_of_ble_eq_true rfl) [1, 2, 3, 0] rfl ?_
          refine k_goto (tgt := 28) h dX6_learn_74 rfl ?_
          refine k_sub (lv' := [(0, .ref (al (oM G) 0)), (1, .int p1), (2, .int v3), (3, .int (v3 + (1 : Int32)))]) [0, 1, 2, 3] rfl ?_
          exact lp_o hf K
noncomputable def f_X6_learn (x0 : Int32) (st : St) : Option (Int32 × St) :=
  ((f_X6_in x0 (0 : Int32) (6 : Int32) st).bind (fun q1 => (if q1.1 = 0 then (some ((-1 : Int32), q1.2)) else (if x0 ≤ (q1.2.1 0 10) then ((iter (fun v : Int32 × Int32 × St => l_X6_learn_28 x0 v.1 v.2.1 v.2.2) fuel ((-9 : Int32), (0 : Int32), q1.2)).bind (fun q11 => ((f_X6_weekOf q11.1 q11.2.2).bind (fun q12 => ((f_X6_tells q12.1 q11.1 q12.2).bind (fun q13 => (some (q13.1, q13.2)))))))) else (some ((-4 : Int32), q1.2))))))
set_option maxHeartbeats 4000000 in
theorem c_X6_learn {G : GG} (l : Launch) (x0 : Int32) (st : St)  (rr : Int32) (st' : St) (hf : f_X6_learn x0 st = some (rr, st')) : MM l yX6_learn cX6_learn 4 (some .int) 2 (oM G) [.ref (al (oM G) 0), .int x0] st (some (.int rr)) st' := by
  refine mk_MM (by decide +kernel) (Nat.le_of_ble_eq_true rfl) (fun X h r => ?_)
  refine k_sub (lv' := [(0, .ref (al (oM G) 0)), (1, .int x0)]) [0, 1] rfl ?_
  unfold f_X6_learn at hf
  refine k_iload_n (pc' := 1) h dX6_learn_0 rfl rfl 1 rfl ?_
  refine k_iconst (pc' := 2) h dX6_learn_1 rfl ci_0 ?_
  refine k_bipush (pc' := 4) h dX6_learn_2 rfl cb_6 ?_
  obtain ⟨q1, hq1, hf⟩ := bd_s hf
  refine k_callS (As := [.int x0, .int (0 : Int32), .int (6 : Int32)]) (rest := []) (rv := some (.int q1.1)) (st' := q1.2) (stk' := [.int q1.1]) (pc' := 7) h dX6_learn_4 rfl ml_X6_83 wc_X6_in ws_X6_in ⟨Nat.le_of_ble_eq_true rfl, Nat.le_of_ble_eq_true rfl⟩ rfl rfl (Nat.le_of_ble_eq_true rfl) (fun l => c_X6_in l x0 (0 : Int32) (6 : Int32) st  _ _ hq1) rfl ?_
  refine k_if_ne (tgt := 12) (pc' := 10) h dX6_learn_7 rfl rfl (fun c2 => ?_) (fun c2 => ?_)
  · replace hf := if_f c2 hf
    refine k_iload_n (pc' := 13) h dX6_learn_12 rfl rfl 1 rfl ?_
    refine k_aload_n (pc' := 14) h dX6_learn_13 rfl rfl 0 rfl ?_
    refine k_get (v := .int (q1.2.1 0 10)) (pc' := 17) h dX6_learn_14 rfl bM_mo fl_X6_135 rfl ?_
    refine k_icmp_le (tgt := 23) (pc' := 20) h dX6_learn_17 rfl rfl (fun c3 => ?_) (fun c3 => ?_)
    · replace hf := if_t c3 hf
      refine k_bipush (pc' := 25) h dX6_learn_23 rfl cb_m9 ?_
      refine k_istore_n (lv' := [(0, .ref (al (oM G) 0)), (1, .int x0), (2, .int (-9 : Int32))]) (pc' := 26) h dX6_learn_25 rfl rfl (Nat.le_of_ble_eq_true rfl) [1, 2, 0] rfl ?_
      refine k_iconst (pc' := 27) h dX6_learn_26 rfl ci_0 ?_
      refine k_istore_n (lv' := [(0, .ref (al (oM G) 0)), (1, .int x0), (2, .int (-9 : Int32)), (3, .int (0 : Int32))]) (pc' := 28) h dX6_learn_27 rfl rfl (Nat.le_of_ble_eq_true rfl) [1, 2, 3, 0] rfl ?_
      obtain ⟨q11, hq11, hf⟩ := bd_s hf
      refine w_X6_learn_28 h x0  fuel (-9 : Int32) (0 : Int32) q1.2 q11 hq11 ?_
      refine k_aload_n (pc' := 78) h dX6_learn_77 rfl rfl 0 rfl ?_
      refine k_aload_n (pc' := 79) h dX6_learn_78 rfl rfl 0 rfl ?_
      refine k_iload_n (pc' := 80) h dX6_learn_79 rfl rfl 2 rfl ?_
      obtain ⟨q12, hq12, hf⟩ := bd_s hf
      refine k_callV (As := [.int q11.1]) (rest := [.ref (al (oM G) 0)]) (rv := some (.int q12.1)) (st' := q12.2) (stk' := [.int q12.1, .ref (al (oM G) 0)]) (pc' := 83) h dX6_learn_80 rfl ml_X6_247 wc_X6_weekOf wi_X6_weekOf ⟨Nat.le_of_ble_eq_true rfl, Nat.le_of_ble_eq_true rfl⟩ bM_mo rfl rfl rfl rfl (Nat.le_of_ble_eq_true rfl) (fun l => c_X6_weekOf l q11.1 q11.2.2  _ _ hq12) rfl ?_
      refine k_iload_n (pc' := 84) h dX6_learn_83 rfl rfl 2 rfl ?_
      obtain ⟨q13, hq13, hf⟩ := bd_s hf
      refine k_callV (As := [.int q12.1, .int q11.1]) (rest := []) (rv := some (.int q13.1)) (st' := q13.2) (stk' := [.int q13.1]) (pc' := 87) h dX6_learn_84 rfl ml_X6_105 wc_X6_tells wi_X6_tells ⟨Nat.le_of_ble_eq_true rfl, Nat.le_of_ble_eq_true rfl⟩ bM_mo rfl rfl rfl rfl (Nat.le_of_ble_eq_true rfl) (fun l => c_X6_tells l q12.1 q11.1 q12.2  _ _ hq13) rfl ?_
      exact k_iret h r dX6_learn_87 (lf_i hf)
    · replace hf := if_f c3 hf
      refine k_bipush (pc' := 22) h dX6_learn_20 rfl cb_m4 ?_
      exact k_iret h r dX6_learn_22 (lf_i hf)
  · replace hf := if_t c2 hf
    refine k_iconst (pc' := 11) h dX6_learn_10 rfl ci_m1 ?_
    exact k_iret h r dX6_learn_11 (lf_i hf)
noncomputable def l_X6_needBook_36 (p1 : Int32) (v2 : Int32) (v3 : Int32) (st : St) : Option ((Int32 × Int32 × St) ⊕ (Int32 × Int32 × St)) :=
  (gd (inb p1 6) (if (st.1 2 p1.toNatClampNeg) ≤ v3 then (some (.inr (v2, v3, st))) else (if v2 = 0 then (some (.inl ((0 : Int32), v3 + (2 : Int32), st))) else ((f_X6_rowAt p1 v3 st).bind (fun q9 => ((f_X6_in q9.1 (0 : Int32) (999 : Int32) q9.2).bind (fun q10 => (if q10.1 = 0 then (some (.inl ((0 : Int32), v3 + (2 : Int32), q10.2))) else ((f_X6_rowAt p1 (v3 + (1 : Int32)) q10.2).bind (fun q12 => ((f_X6_isThing q12.1 q12.2).bind (fun q13 => (if q13.1 = 0 then (some (.inl ((0 : Int32), v3 + (2 : Int32), q13.2))) else (some (.inl ((1 : Int32), v3 + (2 : Int32), q13.2))))))))))))))))
set_option maxHeartbeats 4000000 in
theorem w_X6_needBook_36 {G : GG} {X : Cx} (h : Ok X (oM G) cX6_needBook RX6 4 (RM 2))  (p1 : Int32)  (n : Nat) (v2 : Int32) (v3 : Int32) (st : St) (q : Int32 × Int32 × St) (hq : iter (fun v : Int32 × Int32 × St => l_X6_needBook_36 p1 v.1 v.2.1 v.2.2) n (v2, v3, st) = some q) (kx : Wk X (oM G) 4 q.2.2 92 [(0, .ref (al (oM G) 0)), (1, .int p1), (2, .int q.1), (3, .int q.2.1)] []) : Wk X (oM G) 4 st 36 [(0, .ref (al (oM G) 0)), (1, .int p1), (2, .int v2), (3, .int v3)] [] := by
  refine iter_rule (hd := (fun v : Int32 × Int32 × St => Wk X (oM G) 4 v.2.2 36 [(0, .ref (al (oM G) 0)), (1, .int p1), (2, .int v.1), (3, .int v.2.1)] [])) (ex := (fun v : Int32 × Int32 × St => Wk X (oM G) 4 v.2.2 92 [(0, .ref (al (oM G) 0)), (1, .int p1), (2, .int v.1), (3, .int v.2.1)] [])) ?_ n (v2, v3, st) q hq kx
  rintro ⟨v2, v3, st⟩ oo hbv K
  show Wk X (oM G) 4 st 36 [(0, .ref (al (oM G) 0)), (1, .int p1), (2, .int v2), (3, .int v3)] []
  have hf : l_X6_needBook_36 p1 v2 v3 st = some oo := hbv
  unfold l_X6_needBook_36 at hf
  refine k_iload_n (pc' := 37) h dX6_needBook_36 rfl rfl 3 rfl ?_
  refine k_aload_n (pc' := 38) h dX6_needBook_37 rfl rfl 0 rfl ?_
  refine k_get (v := .ref (al (oM G) 2)) (pc' := 41) h dX6_needBook_38 rfl bM_mo fl_X6_17 rfl ?_
  refine k_iload_n (pc' := 42) h dX6_needBook_41 rfl rfl 1 rfl ?_
  have g6 := gd_1 hf
  replace hf := gd_2 hf
  refine k_iald (pc' := 43) h dX6_needBook_42 rfl aM_2 g6 ?_
  refine k_icmp_ge (tgt := 92) (pc' := 46) h dX6_needBook_43 rfl rfl (fun c7 => ?_) (fun c7 => ?_)
  · replace hf := if_t c7 hf
    refine k_sub (lv' := [(0, .ref (al (oM G) 0)), (1, .int p1), (2, .int v2), (3, .int v3)]) [0, 1, 2, 3] rfl ?_
    exact lp_o hf K
  · replace hf := if_f c7 hf
    refine k_iload_n (pc' := 47) h dX6_needBook_46 rfl rfl 2 rfl ?_
    refine k_if_eq (tgt := 84) (pc' := 50) h dX6_needBook_47 rfl rfl (fun c8 => ?_) (fun c8 => ?_)
    · replace hf := if_t c8 hf
      refine k_iconst (pc' := 85) h dX6_needBook_84 rfl ci_0 ?_
      refine k_istore_n (lv' := [(0, .ref (al (oM G) 0)), (1, .int p1), (2, .int (0 : Int32)), (3, .int v3)]) (pc' := 86) h dX6_needBook_85 rfl rfl (Nat.le_of_ble_eq_true rfl) [1, 2, 0, 3] rfl ?_
      refine k_iinc (lv' := [(0, .ref (al (oM G) 0)), (1, .int p1), (2, .int (0 : Int32)), (3, .int (v3 + (2 : Int32)))]) (pc' := 89) h dX6_needBook_86 rfl 3 rfl (congrArg (fun z => v3 + z) ci_2) (Nat.le_of_ble_eq_true rfl) [1, 2, 3, 0] rfl ?_
      refine k_goto (tgt := 36) h dX6_needBook_89 rfl ?_
      refine k_sub (lv' := [(0, .ref (al (oM G) 0)), (1, .int p1), (2, .int (0 : Int32)), (3, .int (v3 + (2 : Int32)))]) [0, 1, 2, 3] rfl ?_
      exact lp_o hf K
    · replace hf := if_f c8 hf
      refine k_aload_n (pc' := 51) h dX6_needBook_50 rfl rfl 0 rfl ?_
      refine k_iload_n (pc' := 52) h dX6_needBook_51 rfl rfl 1 rfl ?_
      refine k_iload_n (pc' := 53) h dX6_needBook_52 rfl rfl 3 rfl ?_
      obtain ⟨q9, hq9, hf⟩ := bd_s hf
      refine k_callV (As := [.int p1, .int v3]) (rest := []) (rv := some (.int q9.1)) (st' := q9.2) (stk' := [.int q9.1]) (pc' := 56) h dX6_needBook_53 rfl ml_X6_101 wc_X6_rowAt wi_X6_rowAt ⟨Nat.le_of_ble_eq_true rfl, Nat.le_of_ble_eq_true rfl⟩ bM_mo rfl rfl rfl rfl (Nat.le_of_ble_eq_true rfl) (fun l => c_X6_rowAt l p1 v3 st  _ _ hq9) rfl ?_
      refine k_iconst (pc' := 57) h dX6_needBook_56 rfl ci_0 ?_
      refine k_sipush (pc' := 60) h dX6_needBook_57 rfl cs_999 ?_
      obtain ⟨q10, hq10, hf⟩ := bd_s hf
      refine k_callS (As := [.int q9.1, .int (0 : Int32), .int (999 : Int32)]) (rest := []) (rv := some (.int q10.1)) (st' := q10.2) (stk' := [.int q10.1]) (pc' := 63) h dX6_needBook_60 rfl ml_X6_83 wc_X6_in ws_X6_in ⟨Nat.le_of_ble_eq_true rfl, Nat.le_of_ble_eq_true rfl⟩ rfl rfl (Nat.le_of_ble_eq_true rfl) (fun l => c_X6_in l q9.1 (0 : Int32) (999 : Int32) q9.2  _ _ hq10) rfl ?_
      refine k_if_eq (tgt := 84) (pc' := 66) h dX6_needBook_63 rfl rfl (fun c11 => ?_) (fun c11 => ?_)
      · replace hf := if_t c11 hf
        refine k_iconst (pc' := 85) h dX6_needBook_84 rfl ci_0 ?_
        refine k_istore_n (lv' := [(0, .ref (al (oM G) 0)), (1, .int p1), (2, .int (0 : Int32)), (3, .int v3)]) (pc' := 86) h dX6_needBook_85 rfl rfl (Nat.le_of_ble_eq_true rfl) [1, 2, 0, 3] rfl ?_
        refine k_iinc (lv' := [(0, .ref (al (oM G) 0)), (1, .int p1), (2, .int (0 : Int32)), (3, .int (v3 + (2 : Int32)))]) (pc' := 89) h dX6_needBook_86 rfl 3 rfl (congrArg (fun z => v3 + z) ci_2) (Nat.le_of_ble_eq_true rfl) [1, 2, 3, 0] rfl ?_
        refine k_goto (tgt := 36) h dX6_needBook_89 rfl ?_
        refine k_sub (lv' := [(0, .ref (al (oM G) 0)), (1, .int p1), (2, .int (0 : Int32)), (3, .int (v3 + (2 : Int32)))]) [0, 1, 2, 3] rfl ?_
        exact lp_o hf K
      · replace hf := if_f c11 hf
        refine k_aload_n (pc' := 67) h dX6_needBook_66 rfl rfl 0 rfl ?_
        refine k_iload_n (pc' := 68) h dX6_needBook_67 rfl rfl 1 rfl ?_
        refine k_iload_n (pc' := 69) h dX6_needBook_68 rfl rfl 3 rfl ?_
        refine k_iconst (pc' := 70) h dX6_needBook_69 rfl ci_1 ?_
        refine k_iadd (pc' := 71) h dX6_needBook_70 rfl ?_
        obtain ⟨q12, hq12, hf⟩ := bd_s hf
        refine k_callV (As := [.int p1, .int (v3 + (1 : Int32))]) (rest := []) (rv := some (.int q12.1)) (st' := q12.2) (stk' := [.int q12.1]) (pc' := 74) h dX6_needBook_71 rfl ml_X6_101 wc_X6_rowAt wi_X6_rowAt ⟨Nat.le_of_ble_eq_true rfl, Nat.le_of_ble_eq_true rfl⟩ bM_mo rfl rfl rfl rfl (Nat.le_of_ble_eq_true rfl) (fun l => c_X6_rowAt l p1 (v3 + (1 : Int32)) q10.2  _ _ hq12) rfl ?_
        obtain ⟨q13, hq13, hf⟩ := bd_s hf
        refine k_callS (As := [.int q12.1]) (rest := []) (rv := some (.int q13.1)) (st' := q13.2) (stk' := [.int q13.1]) (pc' := 77) h dX6_needBook_74 rfl ml_X6_141 wc_X6_isThing ws_X6_isThing ⟨Nat.le_of_ble_eq_true rfl, Nat.le_of_ble_eq_true rfl⟩ rfl rfl (Nat.le_of_ble_eq_true rfl) (fun l => c_X6_isThing l q12.1 q12.2  _ _ hq13) rfl ?_
        refine k_if_eq (tgt := 84) (pc' := 80) h dX6_needBook_77 rfl rfl (fun c14 => ?_) (fun c14 => ?_)
        · replace hf := if_t c14 hf
          refine k_iconst (pc' := 85) h dX6_needBook_84 rfl ci_0 ?_
          refine k_istore_n (lv' := [(0, .ref (al (oM G) 0)), (1, .int p1), (2, .int (0 : Int32)), (3, .int v3)]) (pc' := 86) h dX6_needBook_85 rfl rfl (Nat.le_of_ble_eq_true rfl) [1, 2, 0, 3] rfl ?_
          refine k_iinc (lv' := [(0, .ref (al (oM G) 0)), (1, .int p1), (2, .int (0 : Int32)), (3, .int (v3 + (2 : Int32)))]) (pc' := 89) h dX6_needBook_86 rfl 3 rfl (congrArg (fun z => v3 + z) ci_2) (Nat.le_of_ble_eq_true rfl) [1, 2, 3, 0] rfl ?_
          refine k_goto (tgt := 36) h dX6_needBook_89 rfl ?_
          refine k_sub (lv' := [(0, .ref (al (oM G) 0)), (1, .int p1), (2, .int (0 : Int32)), (3, .int (v3 + (2 : Int32)))]) [0, 1, 2, 3] rfl ?_
          exact lp_o hf K
        · replace hf := if_f c14 hf
          refine k_iconst (pc' := 81) h dX6_needBook_80 rfl ci_1 ?_
          refine k_goto (tgt := 85) h dX6_needBook_81 rfl ?_
          refine k_istore_n (lv' := [(0, .ref (al (oM G) 0)), (1, .int p1), (2, .int (1 : Int32)), (3, .int v3)]) (pc' := 86) h dX6_needBook_85 rfl rfl (Nat.le_of_ble_eq_true rfl) [1, 2, 0, 3] rfl ?_
          refine k_iinc (lv' := [(0, .ref (al (oM G) 0)), (1, .int p1), (2, .int (1 : Int32)), (3, .int (v3 + (2 : Int32)))]) (pc' := 89) h dX6_needBook_86 rfl 3 rfl (congrArg (fun z => v3 + z) ci_2) (Nat.le_of_ble_eq_true rfl) [1, 2, 3, 0] rfl ?_
          refine k_goto (tgt := 36) h dX6_needBook_89 rfl ?_
          refine k_sub (lv' := [(0, .ref (al (oM G) 0)), (1, .int p1), (2, .int (1 : Int32)), (3, .int (v3 + (2 : Int32)))]) [0, 1, 2, 3] rfl ?_
          exact lp_o hf K
noncomputable def f_X6_needBook (x0 : Int32) (st : St) : Option (Int32 × St) :=
  (gd (inb x0 6) (if 0 ≤ (st.1 2 x0.toNatClampNeg) then (gd (inb x0 6) (gd (nz (2 : Int32)) (if ((st.1 2 x0.toNatClampNeg) - (st.1 2 x0.toNatClampNeg) / (2 : Int32) * (2 : Int32)) = 0 then ((iter (fun v : Int32 × Int32 × St => l_X6_needBook_36 x0 v.1 v.2.1 v.2.2) fuel ((1 : Int32), (0 : Int32), st)).bind (fun q15 => (if q15.1 = 0 then ((f_X6_meets (3 : Int32) q15.2.2).bind (fun q17 => (some (q17.1, q17.2)))) else (some ((0 : Int32), q15.2.2))))) else ((f_X6_meets (5 : Int32) st).bind (fun q18 => (some (q18.1, q18.2))))))) else ((f_X6_meets (1 : Int32) st).bind (fun q19 => (some (q19.1, q19.2))))))
set_option maxHeartbeats 4000000 in
theorem c_X6_needBook {G : GG} (l : Launch) (x0 : Int32) (st : St)  (rr : Int32) (st' : St) (hf : f_X6_needBook x0 st = some (rr, st')) : MM l yX6_needBook cX6_needBook 4 (some .int) 2 (oM G) [.ref (al (oM G) 0), .int x0] st (some (.int rr)) st' := by
  refine mk_MM (by decide +kernel) (Nat.le_of_ble_eq_true rfl) (fun X h r => ?_)
  refine k_sub (lv' := [(0, .ref (al (oM G) 0)), (1, .int x0)]) [0, 1] rfl ?_
  unfold f_X6_needBook at hf
  refine k_aload_n (pc' := 1) h dX6_needBook_0 rfl rfl 0 rfl ?_
  refine k_get (v := .ref (al (oM G) 2)) (pc' := 4) h dX6_needBook_1 rfl bM_mo fl_X6_17 rfl ?_
  refine k_iload_n (pc' := 5) h dX6_needBook_4 rfl rfl 1 rfl ?_
  have g1 := gd_1 hf
  replace hf := gd_2 hf
  refine k_iald (pc' := 6) h dX6_needBook_5 rfl aM_2 g1 ?_
  refine k_if_ge (tgt := 15) (pc' := 9) h dX6_needBook_6 rfl rfl (fun c2 => ?_) (fun c2 => ?_)
  · replace hf := if_t c2 hf
    refine k_aload_n (pc' := 16) h dX6_needBook_15 rfl rfl 0 rfl ?_
    refine k_get (v := .ref (al (oM G) 2)) (pc' := 19) h dX6_needBook_16 rfl bM_mo fl_X6_17 rfl ?_
    refine k_iload_n (pc' := 20) h dX6_needBook_19 rfl rfl 1 rfl ?_
    have g3 := gd_1 hf
    replace hf := gd_2 hf
    refine k_iald (pc' := 21) h dX6_needBook_20 rfl aM_2 g3 ?_
    refine k_iconst (pc' := 22) h dX6_needBook_21 rfl ci_2 ?_
    have g4 := gd_1 hf
    replace hf := gd_2 hf
    refine k_irem (pc' := 23) h dX6_needBook_22 rfl (nz_n g4) ?_
    refine k_if_eq (tgt := 32) (pc' := 26) h dX6_needBook_23 rfl rfl (fun c5 => ?_) (fun c5 => ?_)
    · replace hf := if_t c5 hf
      refine k_iconst (pc' := 33) h dX6_needBook_32 rfl ci_1 ?_
      refine k_istore_n (lv' := [(0, .ref (al (oM G) 0)), (1, .int x0), (2, .int (1 : Int32))]) (pc' := 34) h dX6_needBook_33 rfl rfl (Nat.le_of_ble_eq_true rfl) [1, 2, 0] rfl ?_
      refine k_iconst (pc' := 35) h dX6_needBook_34 rfl ci_0 ?_
      refine k_istore_n (lv' := [(0, .ref (al (oM G) 0)), (1, .int x0), (2, .int (1 : Int32)), (3, .int (0 : Int32))]) (pc' := 36) h dX6_needBook_35 rfl rfl (Nat.le_of_ble_eq_true rfl) [1, 2, 3, 0] rfl ?_
      obtain ⟨q15, hq15, hf⟩ := bd_s hf
      refine w_X6_needBook_36 h x0  fuel (1 : Int32) (0 : Int32) st q15 hq15 ?_
      refine k_iload_n (pc' := 93) h dX6_needBook_92 rfl rfl 2 rfl ?_
      refine k_if_eq (tgt := 100) (pc' := 96) h dX6_needBook_93 rfl rfl (fun c16 => ?_) (fun c16 => ?_)
      · replace hf := if_t c16 hf
        refine k_aload_n (pc' := 101) h dX6_needBook_100 rfl rfl 0 rfl ?_
        refine k_iconst (pc' := 102) h dX6_needBook_101 rfl ci_3 ?_
        obtain ⟨q17, hq17, hf⟩ := bd_s hf
        refine k_callV (As := [.int (3 : Int32)]) (rest := []) (rv := some (.int q17.1)) (st' := q17.2) (stk' := [.int q17.1]) (pc' := 105) h dX6_needBook_102 rfl ml_X6_97 wc_X6_meets wi_X6_meets ⟨Nat.le_of_ble_eq_true rfl, Nat.le_of_ble_eq_true rfl⟩ bM_mo rfl rfl rfl rfl (Nat.le_of_ble_eq_true rfl) (fun l => c_X6_meets l (3 : Int32) q15.2.2  _ _ hq17) rfl ?_
        exact k_iret h r dX6_needBook_105 (lf_i hf)
      · replace hf := if_f c16 hf
        refine k_iconst (pc' := 97) h dX6_needBook_96 rfl ci_0 ?_
        refine k_goto (tgt := 105) h dX6_needBook_97 rfl ?_
        exact k_iret h r dX6_needBook_105 (lf_i hf)
    · replace hf := if_f c5 hf
      refine k_aload_n (pc' := 27) h dX6_needBook_26 rfl rfl 0 rfl ?_
      refine k_iconst (pc' := 28) h dX6_needBook_27 rfl ci_5 ?_
      obtain ⟨q18, hq18, hf⟩ := bd_s hf
      refine k_callV (As := [.int (5 : Int32)]) (rest := []) (rv := some (.int q18.1)) (st' := q18.2) (stk' := [.int q18.1]) (pc' := 31) h dX6_needBook_28 rfl ml_X6_97 wc_X6_meets wi_X6_meets ⟨Nat.le_of_ble_eq_true rfl, Nat.le_of_ble_eq_true rfl⟩ bM_mo rfl rfl rfl rfl (Nat.le_of_ble_eq_true rfl) (fun l => c_X6_meets l (5 : Int32) st  _ _ hq18) rfl ?_
      exact k_iret h r dX6_needBook_31 (lf_i hf)
  · replace hf := if_f c2 hf
    refine k_aload_n (pc' := 10) h dX6_needBook_9 rfl rfl 0 rfl ?_
    refine k_iconst (pc' := 11) h dX6_needBook_10 rfl ci_1 ?_
    obtain ⟨q19, hq19, hf⟩ := bd_s hf
    refine k_callV (As := [.int (1 : Int32)]) (rest := []) (rv := some (.int q19.1)) (st' := q19.2) (stk' := [.int q19.1]) (pc' := 14) h dX6_needBook_11 rfl ml_X6_97 wc_X6_meets wi_X6_meets ⟨Nat.le_of_ble_eq_true rfl, Nat.le_of_ble_eq_true rfl⟩ bM_mo rfl rfl rfl rfl (Nat.le_of_ble_eq_true rfl) (fun l => c_X6_meets l (1 : Int32) st  _ _ hq19) rfl ?_
    exact k_iret h r dX6_needBook_14 (lf_i hf)
noncomputable def l_X6_liesOf_6 (p1 : Int32) (p2 : Int32) (p3 : Int32) (p4 : Int32) (v5 : Int32) (v6 : Int32) (st : St) : Option ((Int32 × Int32 × St) ⊕ (Int32 × Int32 × St)) :=
  (gd (inb p1 6) (if (st.1 2 p1.toNatClampNeg) ≤ v6 then (some (.inr (v5, v6, st))) else ((f_X6_rowAt p1 v6 st).bind (fun q3 => ((f_X6_isOther p2 q3.1 q3.2).bind (fun q4 => (if q4.1 = 0 then ((f_X6_rowAt p1 (v6 + (1 : Int32)) q4.2).bind (fun q6 => (if p3 = q6.1 then (lw (v5 + (0 : Int32)) (fun y8 => (some (.inl (y8, v6 + (2 : Int32), q6.2))))) else (lw (v5 + (1 : Int32)) (fun y9 => (some (.inl (y9, v6 + (2 : Int32), q6.2)))))))) else ((f_X6_rowAt p1 (v6 + (1 : Int32)) q4.2).bind (fun q10 => (if p4 = q10.1 then (lw (v5 + (0 : Int32)) (fun y12 => (some (.inl (y12, v6 + (2 : Int32), q10.2))))) else (lw (v5 + (1 : Int32)) (fun y13 => (some (.inl (y13, v6 + (2 : Int32), q10.2)))))))))))))))
set_option maxHeartbeats 4000000 in
theorem w_X6_liesOf_6 {G : GG} {X : Cx} (h : Ok X (oM G) cX6_liesOf RX6 7 (RM 1))  (p1 : Int32) (p2 : Int32) (p3 : Int32) (p4 : Int32)  (n : Nat) (v5 : Int32) (v6 : Int32) (st : St) (q : Int32 × Int32 × St) (hq : iter (fun v : Int32 × Int32 × St => l_X6_liesOf_6 p1 p2 p3 p4 v.1 v.2.1 v.2.2) n (v5, v6, st) = some q) (kx : Wk X (oM G) 7 q.2.2 65 [(0, .ref (al (oM G) 0)), (1, .int p1), (2, .int p2), (3, .int p3), (4, .int p4), (5, .int q.1), (6, .int q.2.1)] []) : Wk X (oM G) 7 st 6 [(0, .ref (al (oM G) 0)), (1, .int p1), (2, .int p2), (3, .int p3), (4, .int p4), (5, .int v5), (6, .int v6)] [] := by
  refine iter_rule (hd := (fun v : Int32 × Int32 × St => Wk X (oM G) 7 v.2.2 6 [(0, .ref (al (oM G) 0)), (1, .int p1), (2, .int p2), (3, .int p3), (4, .int p4), (5, .int v.1), (6, .int v.2.1)] [])) (ex := (fun v : Int32 × Int32 × St => Wk X (oM G) 7 v.2.2 65 [(0, .ref (al (oM G) 0)), (1, .int p1), (2, .int p2), (3, .int p3), (4, .int p4), (5, .int v.1), (6, .int v.2.1)] [])) ?_ n (v5, v6, st) q hq kx
  rintro ⟨v5, v6, st⟩ oo hbv K
  show Wk X (oM G) 7 st 6 [(0, .ref (al (oM G) 0)), (1, .int p1), (2, .int p2), (3, .int p3), (4, .int p4), (5, .int v5), (6, .int v6)] []
  have hf : l_X6_liesOf_6 p1 p2 p3 p4 v5 v6 st = some oo := hbv
  unfold l_X6_liesOf_6 at hf
  refine k_iload (pc' := 8) h dX6_liesOf_6 rfl 6 rfl ?_
  refine k_aload_n (pc' := 9) h dX6_liesOf_8 rfl rfl 0 rfl ?_
  refine k_get (v := .ref (al (oM G) 2)) (pc' := 12) h dX6_liesOf_9 rfl bM_mo fl_X6_17 rfl ?_
  refine k_iload_n (pc' := 13) h dX6_liesOf_12 rfl rfl 1 rfl ?_
  have g1 := gd_1 hf
  replace hf := gd_2 hf
  refine k_iald (pc' := 14) h dX6_liesOf_13 rfl aM_2 g1 ?_
  refine k_icmp_ge (tgt := 65) (pc' := 17) h dX6_liesOf_14 rfl rfl (fun c2 => ?_) (fun c2 => ?_)
  · replace hf := if_t c2 hf
    refine k_sub (lv' := [(0, .ref (al (oM G) 0)), (1, .int p1), (2, .int p2), (3, .int p3), (4, .int p4), (5, .int v5), (6, .int v6)]) [0, 1, 2, 3, 4, 5, 6] rfl ?_
    exact lp_o hf K
  · replace hf := if_f c2 hf
    refine k_iload (pc' := 19) h dX6_liesOf_17 rfl 5 rfl ?_
    refine k_iload_n (pc' := 20) h dX6_liesOf_19 rfl rfl 2 rfl ?_
    refine k_aload_n (pc' := 21) h dX6_liesOf_20 rfl rfl 0 rfl ?_
    refine k_iload_n (pc' := 22) h dX6_liesOf_21 rfl rfl 1 rfl ?_
    refine k_iload (pc' := 24) h dX6_liesOf_22 rfl 6 rfl ?_
    obtain ⟨q3, hq3, hf⟩ := bd_s hf
    refine k_callV (As := [.int p1, .int v6]) (rest := [.int p2, .int v5]) (rv := some (.int q3.1)) (st' := q3.2) (stk' := [.int q3.1, .int p2, .int v5]) (pc' := 27) h dX6_liesOf_24 rfl ml_X6_101 wc_X6_rowAt wi_X6_rowAt ⟨Nat.le_of_ble_eq_true rfl, Nat.le_of_ble_eq_true rfl⟩ bM_mo rfl rfl rfl rfl (Nat.le_of_ble_eq_true rfl) (fun l => c_X6_rowAt l p1 v6 st  _ _ hq3) rfl ?_
    obtain ⟨q4, hq4, hf⟩ := bd_s hf
    refine k_callS (As := [.int p2, .int q3.1]) (rest := [.int v5]) (rv := some (.int q4.1)) (st' := q4.2) (stk' := [.int q4.1, .int v5]) (pc' := 30) h dX6_liesOf_27 rfl ml_X6_144 wc_X6_isOther ws_X6_isOther ⟨Nat.le_of_ble_eq_true rfl, Nat.le_of_ble_eq_true rfl⟩ rfl rfl (Nat.le_of_ble_eq_true rfl) (fun l => c_X6_isOther l p2 q3.1 q3.2  _ _ hq4) rfl ?_
    refine k_if_eq (tgt := 38) (pc' := 33) h dX6_liesOf_30 rfl rfl (fun c5 => ?_) (fun c5 => ?_)
    · replace hf := if_t c5 hf
      refine k_iload_n (pc' := 39) h dX6_liesOf_38 rfl rfl 3 rfl ?_
      refine k_aload_n (pc' := 40) h dX6_liesOf_39 rfl rfl 0 rfl ?_
      refine k_iload_n (pc' := 41) h dX6_liesOf_40 rfl rfl 1 rfl ?_
      refine k_iload (pc' := 43) h dX6_liesOf_41 rfl 6 rfl ?_
      refine k_iconst (pc' := 44) h dX6_liesOf_43 rfl ci_1 ?_
      refine k_iadd (pc' := 45) h dX6_liesOf_44 rfl ?_
      obtain ⟨q6, hq6, hf⟩ := bd_s hf
      refine k_callV (As := [.int p1, .int (v6 + (1 : Int32))]) (rest := [.int p3, .int v5]) (rv := some (.int q6.1)) (st' := q6.2) (stk' := [.int q6.1, .int p3, .int v5]) (pc' := 48) h dX6_liesOf_45 rfl ml_X6_101 wc_X6_rowAt wi_X6_rowAt ⟨Nat.le_of_ble_eq_true rfl, Nat.le_of_ble_eq_true rfl⟩ bM_mo rfl rfl rfl rfl (Nat.le_of_ble_eq_true rfl) (fun l => c_X6_rowAt l p1 (v6 + (1 : Int32)) q4.2  _ _ hq6) rfl ?_
      refine k_icmp_eq (tgt := 55) (pc' := 51) h dX6_liesOf_48 rfl rfl (fun c7 => ?_) (fun c7 => ?_)
      · replace hf := if_t c7 hf
        refine k_iconst (pc' := 56) h dX6_liesOf_55 rfl ci_0 ?_
        refine k_iadd (pc' := 57) h dX6_liesOf_56 rfl ?_
        obtain ⟨y8, hy8, hf⟩ := lw_s hf
        refine k_eqi hy8 ?_
        refine k_istore (lv' := [(0, .ref (al (oM G) 0)), (1, .int p1), (2, .int p2), (3, .int p3), (4, .int p4), (5, .int y8), (6, .int v6)]) (pc' := 59) h dX6_liesOf_57 rfl (Nat.le_of_ble_eq_true rfl) [1, 2, 3, 4, 5, 0, 6] rfl ?_
        refine k_iinc (lv' := [(0, .ref (al (oM G) 0)), (1, .int p1), (2, .int p2), (3, .int p3), (4, .int p4), (5, .int y8), (6, .int (v6 + (2 : Int32)))]) (pc' := 62) h dX6_liesOf_59 rfl 6 rfl (congrArg (fun z => v6 + z) ci_2) (Nat.le_of_ble_eq_true rfl) [1, 2, 3, 4, 5, 6, 0] rfl ?_
        refine k_goto (tgt := 6) h dX6_liesOf_62 rfl ?_
        refine k_sub (lv' := [(0, .ref (al (oM G) 0)), (1, .int p1), (2, .int p2), (3, .int p3), (4, .int p4), (5, .int y8), (6, .int (v6 + (2 : Int32)))]) [0, 1, 2, 3, 4, 5, 6] rfl ?_
        exact lp_o hf K
      · replace hf := if_f c7 hf
        refine k_iconst (pc' := 52) h dX6_liesOf_51 rfl ci_1 ?_
        refine k_goto (tgt := 56) h dX6_liesOf_52 rfl ?_
        refine k_iadd (pc' := 57) h dX6_liesOf_56 rfl ?_
        obtain ⟨y9, hy9, hf⟩ := lw_s hf
        refine k_eqi hy9 ?_
        refine k_istore (lv' := [(0, .ref (al (oM G) 0)), (1, .int p1), (2, .int p2), (3, .int p3), (4, .int p4), (5, .int y9), (6, .int v6)]) (pc' := 59) h dX6_liesOf_57 rfl (Nat.le_of_ble_eq_true rfl) [1, 2, 3, 4, 5, 0, 6] rfl ?_
        refine k_iinc (lv' := [(0, .ref (al (oM G) 0)), (1, .int p1), (2, .int p2), (3, .int p3), (4, .int p4), (5, .int y9), (6, .int (v6 + (2 : Int32)))]) (pc' := 62) h dX6_liesOf_59 rfl 6 rfl (congrArg (fun z => v6 + z) ci_2) (Nat.le_of_ble_eq_true rfl) [1, 2, 3, 4, 5, 6, 0] rfl ?_
        refine k_goto (tgt := 6) h dX6_liesOf_62 rfl ?_
        refine k_sub (lv' := [(0, .ref (al (oM G) 0)), (1, .int p1), (2, .int p2), (3, .int p3), (4, .int p4), (5, .int y9), (6, .int (v6 + (2 : Int32)))]) [0, 1, 2, 3, 4, 5, 6] rfl ?_
        exact lp_o hf K
    · replace hf := if_f c5 hf
      refine k_iload (pc' := 35) h dX6_liesOf_33 rfl 4 rfl ?_
      refine k_goto (tgt := 39) h dX6_liesOf_35 rfl ?_
      refine k_aload_n (pc' := 40) h dX6_liesOf_39 rfl rfl 0 rfl ?_
      refine k_iload_n (pc' := 41) h dX6_liesOf_40 rfl rfl 1 rfl ?_
      refine k_iload (pc' := 43) h dX6_liesOf_41 rfl 6 rfl ?_
      refine k_iconst (pc' := 44) h dX6_liesOf_43 rfl ci_1 ?_
      refine k_iadd (pc' := 45) h dX6_liesOf_44 rfl ?_
      obtain ⟨q10, hq10, hf⟩ := bd_s hf
      refine k_callV (As := [.int p1, .int (v6 + (1 : Int32))]) (rest := [.int p4, .int v5]) (rv := some (.int q10.1)) (st' := q10.2) (stk' := [.int q10.1, .int p4, .int v5]) (pc' := 48) h dX6_liesOf_45 rfl ml_X6_101 wc_X6_rowAt wi_X6_rowAt ⟨Nat.le_of_ble_eq_true rfl, Nat.le_of_ble_eq_true rfl⟩ bM_mo rfl rfl rfl rfl (Nat.le_of_ble_eq_true rfl) (fun l => c_X6_rowAt l p1 (v6 + (1 : Int32)) q4.2  _ _ hq10) rfl ?_
      refine k_icmp_eq (tgt := 55) (pc' := 51) h dX6_liesOf_48 rfl rfl (fun c11 => ?_) (fun c11 => ?_)
      · replace hf := if_t c11 hf
        refine k_iconst (pc' := 56) h dX6_liesOf_55 rfl ci_0 ?_
        refine k_iadd (pc' := 57) h dX6_liesOf_56 rfl ?_
        obtain ⟨y12, hy12, hf⟩ := lw_s hf
        refine k_eqi hy12 ?_
        refine k_istore (lv' := [(0, .ref (al (oM G) 0)), (1, .int p1), (2, .int p2), (3, .int p3), (4, .int p4), (5, .int y12), (6, .int v6)]) (pc' := 59) h dX6_liesOf_57 rfl (Nat.le_of_ble_eq_true rfl) [1, 2, 3, 4, 5, 0, 6] rfl ?_
        refine k_iinc (lv' := [(0, .ref (al (oM G) 0)), (1, .int p1), (2, .int p2), (3, .int p3), (4, .int p4), (5, .int y12), (6, .int (v6 + (2 : Int32)))]) (pc' := 62) h dX6_liesOf_59 rfl 6 rfl (congrArg (fun z => v6 + z) ci_2) (Nat.le_of_ble_eq_true rfl) [1, 2, 3, 4, 5, 6, 0] rfl ?_
        refine k_goto (tgt := 6) h dX6_liesOf_62 rfl ?_
        refine k_sub (lv' := [(0, .ref (al (oM G) 0)), (1, .int p1), (2, .int p2), (3, .int p3), (4, .int p4), (5, .int y12), (6, .int (v6 + (2 : Int32)))]) [0, 1, 2, 3, 4, 5, 6] rfl ?_
        exact lp_o hf K
      · replace hf := if_f c11 hf
        refine k_iconst (pc' := 52) h dX6_liesOf_51 rfl ci_1 ?_
        refine k_goto (tgt := 56) h dX6_liesOf_52 rfl ?_
        refine k_iadd (pc' := 57) h dX6_liesOf_56 rfl ?_
        obtain ⟨y13, hy13, hf⟩ := lw_s hf
        refine k_eqi hy13 ?_
        refine k_istore (lv' := [(0, .ref (al (oM G) 0)), (1, .int p1), (2, .int p2), (3, .int p3), (4, .int p4), (5, .int y13), (6, .int v6)]) (pc' := 59) h dX6_liesOf_57 rfl (Nat.le_of_ble_eq_true rfl) [1, 2, 3, 4, 5, 0, 6] rfl ?_
        refine k_iinc (lv' := [(0, .ref (al (oM G) 0)), (1, .int p1), (2, .int p2), (3, .int p3), (4, .int p4), (5, .int y13), (6, .int (v6 + (2 : Int32)))]) (pc' := 62) h dX6_liesOf_59 rfl 6 rfl (congrArg (fun z => v6 + z) ci_2) (Nat.le_of_ble_eq_true rfl) [1, 2, 3, 4, 5, 6, 0] rfl ?_
        refine k_goto (tgt := 6) h dX6_liesOf_62 rfl ?_
        refine k_sub (lv' := [(0, .ref (al (oM G) 0)), (1, .int p1), (2, .int p2), (3, .int p3), (4, .int p4), (5, .int y13), (6, .int (v6 + (2 : Int32)))]) [0, 1, 2, 3, 4, 5, 6] rfl ?_
        exact lp_o hf K
noncomputable def f_X6_liesOf (x0 : Int32) (x1 : Int32) (x2 : Int32) (x3 : Int32) (st : St) : Option (Int32 × St) :=
  ((iter (fun v : Int32 × Int32 × St => l_X6_liesOf_6 x0 x1 x2 x3 v.1 v.2.1 v.2.2) fuel ((0 : Int32), (0 : Int32), st)).bind (fun q14 => (some (q14.1, q14.2.2))))
set_option maxHeartbeats 4000000 in
theorem c_X6_liesOf {G : GG} (l : Launch) (x0 : Int32) (x1 : Int32) (x2 : Int32) (x3 : Int32) (st : St)  (rr : Int32) (st' : St) (hf : f_X6_liesOf x0 x1 x2 x3 st = some (rr, st')) : MM l yX6_liesOf cX6_liesOf 7 (some .int) 1 (oM G) [.ref (al (oM G) 0), .int x0, .int x1, .int x2, .int x3] st (some (.int rr)) st' := by
  refine mk_MM (by decide +kernel) (Nat.le_of_ble_eq_true rfl) (fun X h r => ?_)
  refine k_sub (lv' := [(0, .ref (al (oM G) 0)), (1, .int x0), (2, .int x1), (3, .int x2), (4, .int x3)]) [0, 1, 2, 3, 4] rfl ?_
  unfold f_X6_liesOf at hf
  refine k_iconst (pc' := 1) h dX6_liesOf_0 rfl ci_0 ?_
  refine k_istore (lv' := [(0, .ref (al (oM G) 0)), (1, .int x0), (2, .int x1), (3, .int x2), (4, .int x3), (5, .int (0 : Int32))]) (pc' := 3) h dX6_liesOf_1 rfl (Nat.le_of_ble_eq_true rfl) [1, 2, 3, 4, 5, 0] rfl ?_
  refine k_iconst (pc' := 4) h dX6_liesOf_3 rfl ci_0 ?_
  refine k_istore (lv' := [(0, .ref (al (oM G) 0)), (1, .int x0), (2, .int x1), (3, .int x2), (4, .int x3), (5, .int (0 : Int32)), (6, .int (0 : Int32))]) (pc' := 6) h dX6_liesOf_4 rfl (Nat.le_of_ble_eq_true rfl) [1, 2, 3, 4, 5, 6, 0] rfl ?_
  obtain ⟨q14, hq14, hf⟩ := bd_s hf
  refine w_X6_liesOf_6 h x0 x1 x2 x3  fuel (0 : Int32) (0 : Int32) st q14 hq14 ?_
  refine k_iload (pc' := 67) h dX6_liesOf_65 rfl 5 rfl ?_
  exact k_iret h r dX6_liesOf_67 (lf_i hf)
noncomputable def f_X6_liesBy (x0 : Int32) (x1 : Int32) (st : St) : Option (Int32 × St) :=
  (gd (inb x1 6) (gd (inb x1 6) (gd (inb x1 6) ((f_X6_liesOf x0 (st.1 7 x1.toNatClampNeg) (st.1 10 x1.toNatClampNeg) (st.1 11 x1.toNatClampNeg) st).bind (fun q4 => (some (q4.1, q4.2)))))))
set_option maxHeartbeats 4000000 in
theorem c_X6_liesBy {G : GG} (l : Launch) (x0 : Int32) (x1 : Int32) (st : St)  (rr : Int32) (st' : St) (hf : f_X6_liesBy x0 x1 st = some (rr, st')) : MM l yX6_liesBy cX6_liesBy 3 (some .int) 2 (oM G) [.ref (al (oM G) 0), .int x0, .int x1] st (some (.int rr)) st' := by
  refine mk_MM (by decide +kernel) (Nat.le_of_ble_eq_true rfl) (fun X h r => ?_)
  refine k_sub (lv' := [(0, .ref (al (oM G) 0)), (1, .int x0), (2, .int x1)]) [0, 1, 2] rfl ?_
  unfold f_X6_liesBy at hf
  refine k_aload_n (pc' := 1) h dX6_liesBy_0 rfl rfl 0 rfl ?_
  refine k_iload_n (pc' := 2) h dX6_liesBy_1 rfl rfl 1 rfl ?_
  refine k_aload_n (pc' := 3) h dX6_liesBy_2 rfl rfl 0 rfl ?_
  refine k_get (v := .ref (al (oM G) 7)) (pc' := 6) h dX6_liesBy_3 rfl bM_mo fl_X6_33 rfl ?_
  refine k_iload_n (pc' := 7) h dX6_liesBy_6 rfl rfl 2 rfl ?_
  have g1 := gd_1 hf
  replace hf := gd_2 hf
  refine k_iald (pc' := 8) h dX6_liesBy_7 rfl aM_7 g1 ?_
  refine k_aload_n (pc' := 9) h dX6_liesBy_8 rfl rfl 0 rfl ?_
  refine k_get (v := .ref (al (oM G) 10)) (pc' := 12) h dX6_liesBy_9 rfl bM_mo fl_X6_42 rfl ?_
  refine k_iload_n (pc' := 13) h dX6_liesBy_12 rfl rfl 2 rfl ?_
  have g2 := gd_1 hf
  replace hf := gd_2 hf
  refine k_iald (pc' := 14) h dX6_liesBy_13 rfl aM_10 g2 ?_
  refine k_aload_n (pc' := 15) h dX6_liesBy_14 rfl rfl 0 rfl ?_
  refine k_get (v := .ref (al (oM G) 11)) (pc' := 18) h dX6_liesBy_15 rfl bM_mo fl_X6_45 rfl ?_
  refine k_iload_n (pc' := 19) h dX6_liesBy_18 rfl rfl 2 rfl ?_
  have g3 := gd_1 hf
  replace hf := gd_2 hf
  refine k_iald (pc' := 20) h dX6_liesBy_19 rfl aM_11 g3 ?_
  obtain ⟨q4, hq4, hf⟩ := bd_s hf
  refine k_callV (As := [.int x0, .int (st.1 7 x1.toNatClampNeg), .int (st.1 10 x1.toNatClampNeg), .int (st.1 11 x1.toNatClampNeg)]) (rest := []) (rv := some (.int q4.1)) (st' := q4.2) (stk' := [.int q4.1]) (pc' := 23) h dX6_liesBy_20 rfl ml_X6_250 wc_X6_liesOf wi_X6_liesOf ⟨Nat.le_of_ble_eq_true rfl, Nat.le_of_ble_eq_true rfl⟩ bM_mo rfl rfl rfl rfl (Nat.le_of_ble_eq_true rfl) (fun l => c_X6_liesOf l x0 (st.1 7 x1.toNatClampNeg) (st.1 10 x1.toNatClampNeg) (st.1 11 x1.toNatClampNeg) st  _ _ hq4) rfl ?_
  exact k_iret h r dX6_liesBy_23 (lf_i hf)
noncomputable def l_X6_fits_26 (p1 : Int32) (p2 : Int32) (v3 : Int32) (v4 : Int32) (st : St) : Option ((Int32 × Int32 × St) ⊕ (Int32 × Int32 × St)) :=
  (if (st.1 0 10) ≤ v4 then (some (.inr (v3, v4, st))) else ((f_X6_liesBy p1 v4 st).bind (fun q6 => (if q6.1 = 0 then (lw (v3 ||| ((1 : Int32) <<< (v4 &&& 31))) (fun y9 => (some (.inl (y9, v4 + (1 : Int32), q6.2))))) else (lw (v3 ||| (0 : Int32)) (fun y8 => (some (.inl (y8, v4 + (1 : Int32), q6.2)))))))))
set_option maxHeartbeats 4000000 in
theorem w_X6_fits_26 {G : GG} {X : Cx} (h : Ok X (oM G) cX6_fits RX6 5 (RM 3))  (p1 : Int32) (p2 : Int32)  (n : Nat) (v3 : Int32) (v4 : Int32) (st : St) (q : Int32 × Int32 × St) (hq : iter (fun v : Int32 × Int32 × St => l_X6_fits_26 p1 p2 v.1 v.2.1 v.2.2) n (v3, v4, st) = some q) (kx : Wk X (oM G) 5 q.2.2 62 [(0, .ref (al (oM G) 0)), (1, .int p1), (2, .int p2), (3, .int q.1), (4, .int q.2.1)] []) : Wk X (oM G) 5 st 26 [(0, .ref (al (oM G) 0)), (1, .int p1), (2, .int p2), (3, .int v3), (4, .int v4)] [] := by
  refine iter_rule (hd := (fun v : Int32 × Int32 × St => Wk X (oM G) 5 v.2.2 26 [(0, .ref (al (oM G) 0)), (1, .int p1), (2, .int p2), (3, .int v.1), (4, .int v.2.1)] [])) (ex := (fun v : Int32 × Int32 × St => Wk X (oM G) 5 v.2.2 62 [(0, .ref (al (oM G) 0)), (1, .int p1), (2, .int p2), (3, .int v.1), (4, .int v.2.1)] [])) ?_ n (v3, v4, st) q hq kx
  rintro ⟨v3, v4, st⟩ oo hbv K
  show Wk X (oM G) 5 st 26 [(0, .ref (al (oM G) 0)), (1, .int p1), (2, .int p2), (3, .int v3), (4, .int v4)] []
  have hf : l_X6_fits_26 p1 p2 v3 v4 st = some oo := hbv
  unfold l_X6_fits_26 at hf
  refine k_iload (pc' := 28) h dX6_fits_26 rfl 4 rfl ?_
  refine k_aload_n (pc' := 29) h dX6_fits_28 rfl rfl 0 rfl ?_
  refine k_get (v := .int (st.1 0 10)) (pc' := 32) h dX6_fits_29 rfl bM_mo fl_X6_135 rfl ?_
  refine k_icmp_ge (tgt := 62) (pc' := 35) h dX6_fits_32 rfl rfl (fun c5 => ?_) (fun c5 => ?_)
  · replace hf := if_t c5 hf
    refine k_sub (lv' := [(0, .ref (al (oM G) 0)), (1, .int p1), (2, .int p2), (3, .int v3), (4, .int v4)]) [0, 1, 2, 3, 4] rfl ?_
    exact lp_o hf K
  · replace hf := if_f c5 hf
    refine k_iload_n (pc' := 36) h dX6_fits_35 rfl rfl 3 rfl ?_
    refine k_aload_n (pc' := 37) h dX6_fits_36 rfl rfl 0 rfl ?_
    refine k_iload_n (pc' := 38) h dX6_fits_37 rfl rfl 1 rfl ?_
    refine k_iload (pc' := 40) h dX6_fits_38 rfl 4 rfl ?_
    obtain ⟨q6, hq6, hf⟩ := bd_s hf
    refine k_callV (As := [.int p1, .int v4]) (rest := [.int v3]) (rv := some (.int q6.1)) (st' := q6.2) (stk' := [.int q6.1, .int v3]) (pc' := 43) h dX6_fits_40 rfl ml_X6_257 wc_X6_liesBy wi_X6_liesBy ⟨Nat.le_of_ble_eq_true rfl, Nat.le_of_ble_eq_true rfl⟩ bM_mo rfl rfl rfl rfl (Nat.le_of_ble_eq_true rfl) (fun l => c_X6_liesBy l p1 v4 st  _ _ hq6) rfl ?_
    refine k_if_ne (tgt := 53) (pc' := 46) h dX6_fits_43 rfl rfl (fun c7 => ?_) (fun c7 => ?_)
    · replace hf := if_f c7 hf
      refine k_iconst (pc' := 54) h dX6_fits_53 rfl ci_0 ?_
      refine k_ior (pc' := 55) h dX6_fits_54 rfl ?_
      obtain ⟨y8, hy8, hf⟩ := lw_s hf
      refine k_eqi hy8 ?_
      refine k_istore_n (lv' := [(0, .ref (al (oM G) 0)), (1, .int p1), (2, .int p2), (3, .int y8), (4, .int v4)]) (pc' := 56) h dX6_fits_55 rfl rfl (Nat.le_of_ble_eq_true rfl) [1, 2, 3, 0, 4] rfl ?_
      refine k_iinc (lv' := [(0, .ref (al (oM G) 0)), (1, .int p1), (2, .int p2), (3, .int y8), (4, .int (v4 + (1 : Int32)))]) (pc' := 59) h dX6_fits_56 rfl 4 rfl (congrArg (fun z => v4 + z) ci_1) (Nat.le_of_ble_eq_true rfl) [1, 2, 3, 4, 0] rfl ?_
      refine k_goto (tgt := 26) h dX6_fits_59 rfl ?_
      refine k_sub (lv' := [(0, .ref (al (oM G) 0)), (1, .int p1), (2, .int p2), (3, .int y8), (4, .int (v4 + (1 : Int32)))]) [0, 1, 2, 3, 4] rfl ?_
      exact lp_o hf K
    · replace hf := if_t c7 hf
      refine k_iconst (pc' := 47) h dX6_fits_46 rfl ci_1 ?_
      refine k_iload (pc' := 49) h dX6_fits_47 rfl 4 rfl ?_
      refine k_ishl (pc' := 50) h dX6_fits_49 rfl ?_
      refine k_goto (tgt := 54) h dX6_fits_50 rfl ?_
      refine k_ior (pc' := 55) h dX6_fits_54 rfl ?_
      obtain ⟨y9, hy9, hf⟩ := lw_s hf
      refine k_eqi hy9 ?_
      refine k_istore_n (lv' := [(0, .ref (al (oM G) 0)), (1, .int p1), (2, .int p2), (3, .int y9), (4, .int v4)]) (pc' := 56) h dX6_fits_55 rfl rfl (Nat.le_of_ble_eq_true rfl) [1, 2, 3, 0, 4] rfl ?_
      refine k_iinc (lv' := [(0, .ref (al (oM G) 0)), (1, .int p1), (2, .int p2), (3, .int y9), (4, .int (v4 + (1 : Int32)))]) (pc' := 59) h dX6_fits_56 rfl 4 rfl (congrArg (fun z => v4 + z) ci_1) (Nat.le_of_ble_eq_true rfl) [1, 2, 3, 4, 0] rfl ?_
      refine k_goto (tgt := 26) h dX6_fits_59 rfl ?_
      refine k_sub (lv' := [(0, .ref (al (oM G) 0)), (1, .int p1), (2, .int p2), (3, .int y9), (4, .int (v4 + (1 : Int32)))]) [0, 1, 2, 3, 4] rfl ?_
      exact lp_o hf K
noncomputable def f_X6_fits (x0 : Int32) (st : St) : Option (Int32 × St) :=
  ((f_X6_isRow x0 st).bind (fun q1 => (if q1.1 = 0 then (some ((-1 : Int32), q1.2)) else ((f_X6_needBook x0 q1.2).bind (fun q3 => (if 0 ≤ q3.1 then ((iter (fun v : Int32 × Int32 × St => l_X6_fits_26 x0 q3.1 v.1 v.2.1 v.2.2) fuel ((0 : Int32), (0 : Int32), q3.2)).bind (fun q10 => (some (q10.1, q10.2.2)))) else (some (q3.1, q3.2))))))))
set_option maxHeartbeats 4000000 in
theorem c_X6_fits {G : GG} (l : Launch) (x0 : Int32) (st : St)  (rr : Int32) (st' : St) (hf : f_X6_fits x0 st = some (rr, st')) : MM l yX6_fits cX6_fits 5 (some .int) 3 (oM G) [.ref (al (oM G) 0), .int x0] st (some (.int rr)) st' := by
  refine mk_MM (by decide +kernel) (Nat.le_of_ble_eq_true rfl) (fun X h r => ?_)
  refine k_sub (lv' := [(0, .ref (al (oM G) 0)), (1, .int x0)]) [0, 1] rfl ?_
  unfold f_X6_fits at hf
  refine k_iload_n (pc' := 1) h dX6_fits_0 rfl rfl 1 rfl ?_
  obtain ⟨q1, hq1, hf⟩ := bd_s hf
  refine k_callS (As := [.int x0]) (rest := []) (rv := some (.int q1.1)) (st' := q1.2) (stk' := [.int q1.1]) (pc' := 4) h dX6_fits_1 rfl ml_X6_93 wc_X6_isRow ws_X6_isRow ⟨Nat.le_of_ble_eq_true rfl, Nat.le_of_ble_eq_true rfl⟩ rfl rfl (Nat.le_of_ble_eq_true rfl) (fun l => c_X6_isRow l x0 st  _ _ hq1) rfl ?_
  refine k_if_ne (tgt := 9) (pc' := 7) h dX6_fits_4 rfl rfl (fun c2 => ?_) (fun c2 => ?_)
  · replace hf := if_f c2 hf
    refine k_aload_n (pc' := 10) h dX6_fits_9 rfl rfl 0 rfl ?_
    refine k_iload_n (pc' := 11) h dX6_fits_10 rfl rfl 1 rfl ?_
    obtain ⟨q3, hq3, hf⟩ := bd_s hf
    refine k_callV (As := [.int x0]) (rest := []) (rv := some (.int q3.1)) (st' := q3.2) (stk' := [.int q3.1]) (pc' := 14) h dX6_fits_11 rfl ml_X6_254 wc_X6_needBook wi_X6_needBook ⟨Nat.le_of_ble_eq_true rfl, Nat.le_of_ble_eq_true rfl⟩ bM_mo rfl rfl rfl rfl (Nat.le_of_ble_eq_true rfl) (fun l => c_X6_needBook l x0 q1.2  _ _ hq3) rfl ?_
    refine k_istore_n (lv' := [(0, .ref (al (oM G) 0)), (1, .int x0), (2, .int q3.1)]) (pc' := 15) h dX6_fits_14 rfl rfl (Nat.le_of_ble_eq_true rfl) [1, 2, 0] rfl ?_
    refine k_iload_n (pc' := 16) h dX6_fits_15 rfl rfl 2 rfl ?_
    refine k_if_ge (tgt := 21) (pc' := 19) h dX6_fits_16 rfl rfl (fun c4 => ?_) (fun c4 => ?_)
    · replace hf := if_t c4 hf
      refine k_iconst (pc' := 22) h dX6_fits_21 rfl ci_0 ?_
      refine k_istore_n (lv' := [(0, .ref (al (oM G) 0)), (1, .int x0), (2, .int q3.1), (3, .int (0 : Int32))]) (pc' := 23) h dX6_fits_22 rfl rfl (Nat.le_of_ble_eq_true rfl) [1, 2, 3, 0] rfl ?_
      refine k_iconst (pc' := 24) h dX6_fits_23 rfl ci_0 ?_
      refine k_istore (lv' := [(0, .ref (al (oM G) 0)), (1, .int x0), (2, .int q3.1), (3, .int (0 : Int32)), (4, .int (0 : Int32))]) (pc' := 26) h dX6_fits_24 rfl (Nat.le_of_ble_eq_true rfl) [1, 2, 3, 4, 0] rfl ?_
      obtain ⟨q10, hq10, hf⟩ := bd_s hf
      refine w_X6_fits_26 h x0 q3.1  fuel (0 : Int32) (0 : Int32) q3.2 q10 hq10 ?_
      refine k_iload_n (pc' := 63) h dX6_fits_62 rfl rfl 3 rfl ?_
      exact k_iret h r dX6_fits_63 (lf_i hf)
    · replace hf := if_f c4 hf
      refine k_iload_n (pc' := 20) h dX6_fits_19 rfl rfl 2 rfl ?_
      exact k_iret h r dX6_fits_20 (lf_i hf)
  · replace hf := if_t c2 hf
    refine k_iconst (pc' := 8) h dX6_fits_7 rfl ci_m1 ?_
    exact k_iret h r dX6_fits_8 (lf_i hf)
