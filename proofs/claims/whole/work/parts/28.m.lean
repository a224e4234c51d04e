noncomputable def l_X6_kinds_44 (p1 : Int32) (p2 : Int32) (p3 : Int32) (p4 : Int32) (v5 : Int32) (v6 : Int32) (st : St) : Option ((Int32 × Int32 × St) ⊕ (Int32 × Int32 × St)) :=
  (if (6 : Int32) ≤ v6 then (some (.inr (v5, v6, st))) else ((f_X6_liesOf p1 v6 p2 p3 st).bind (fun q10 => (if q10.1 = 0 then (lw (v5 ||| ((1 : Int32) <<< (v6 &&& 31))) (fun y13 => (some (.inl (y13, v6 + (1 : Int32), q10.2))))) else (lw (v5 ||| (0 : Int32)) (fun y12 => (some (.inl (y12, v6 + (1 : Int32), q10.2)))))))))
set_option maxHeartbeats 4000000 in
theorem w_X6_kinds_44 {G : GG} {X : Cx} (h : Ok X (oM G) cX6_kinds RX6 7 (RM 3))  (p1 : Int32) (p2 : Int32) (p3 : Int32) (p4 : Int32)  (n : Nat) (v5 : Int32) (v6 : Int32) (st : St) (q : Int32 × Int32 × St) (hq : iter (fun v : Int32 × Int32 × St => l_X6_kinds_44 p1 p2 p3 p4 v.1 v.2.1 v.2.2) n (v5, v6, st) = some q) (kx : Wk X (oM G) 7 q.2.2 82 [(0, .ref (al (oM G) 0)), (1, .int p1), (2, .int p2), (3, .int p3), (4, .int p4), (5, .int q.1), (6, .int q.2.1)] []) : Wk X (oM G) 7 st 44 [(0, .ref (al (oM G) 0)), (1, .int p1), (2, .int p2), (3, .int p3), (4, .int p4), (5, .int v5), (6, .int v6)] [] := by
  refine iter_rule (hd := (fun v : Int32 × Int32 × St => Wk X (oM G) 7 v.2.2 44 [(0, .ref (al (oM G) 0)), (1, .int p1), (2, .int p2), (3, .int p3), (4, .int p4), (5, .int v.1), (6, .int v.2.1)] [])) (ex := (fun v : Int32 × Int32 × St => Wk X (oM G) 7 v.2.2 82 [(0, .ref (al (oM G) 0)), (1, .int p1), (2, .int p2), (3, .int p3), (4, .int p4), (5, .int v.1), (6, .int v.2.1)] [])) ?_ n (v5, v6, st) q hq kx
  rintro ⟨v5, v6, st⟩ oo hbv K
  show Wk X (oM G) 7 st 44 [(0, .ref (al (oM G) 0)), (1, .int p1), (2, .int p2), (3, .int p3), (4, .int p4), (5, .int v5), (6, .int v6)] []
  have hf : l_X6_kinds_44 p1 p2 p3 p4 v5 v6 st = some oo := hbv
  unfold l_X6_kinds_44 at hf
  refine k_iload (pc' := 46) h dX6_kinds_44 rfl 6 rfl ?_
  refine k_bipush (pc' := 48) h dX6_kinds_46 rfl cb_6 ?_
  refine k_icmp_ge (tgt := 82) (pc' := 51) h dX6_kinds_48 rfl rfl (fun c9 => ?_) (fun c9 => ?_)
  · replace hf := if_t c9 hf
    refine k_sub (lv' := [(0, .ref (al (oM G) 0)), (1, .int p1), (2, .int p2), (3, .int p3), (4, .int p4), (5, .int v5), (6, .int v6)]) [0, 1, 2, 3, 4, 5, 6] rfl ?_
    exact lp_o hf K
  · replace hf := if_f c9 hf
    refine k_iload (pc' := 53) h dX6_kinds_51 rfl 5 rfl ?_
    refine k_aload_n (pc' := 54) h dX6_kinds_53 rfl rfl 0 rfl ?_
    refine k_iload_n (pc' := 55) h dX6_kinds_54 rfl rfl 1 rfl ?_
    refine k_iload (pc' := 57) h dX6_kinds_55 rfl 6 rfl ?_
    refine k_iload_n (pc' := 58) h dX6_kinds_57 rfl rfl 2 rfl ?_
    refine k_iload_n (pc' := 59) h dX6_kinds_58 rfl rfl 3 rfl ?_
    obtain ⟨q10, hq10, hf⟩ := bd_s hf
    refine k_callV (As := [.int p1, .int v6, .int p2, .int p3]) (rest := [.int v5]) (rv := some (.int q10.1)) (st' := q10.2) (stk' := [.int q10.1, .int v5]) (pc' := 62) h dX6_kinds_59 rfl ml_X6_250 wc_X6_liesOf wi_X6_liesOf ⟨Nat.le_of_ble_eq_true rfl, Nat.le_of_ble_eq_true rfl⟩ bM_mo rfl rfl rfl rfl (Nat.le_of_ble_eq_true rfl) (fun l => c_X6_liesOf l p1 v6 p2 p3 st  _ _ hq10) rfl ?_
    refine k_if_ne (tgt := 72) (pc' := 65) h dX6_kinds_62 rfl rfl (fun c11 => ?_) (fun c11 => ?_)
    · replace hf := if_f c11 hf
      refine k_iconst (pc' := 73) h dX6_kinds_72 rfl ci_0 ?_
      refine k_ior (pc' := 74) h dX6_kinds_73 rfl ?_
      obtain ⟨y12, hy12, hf⟩ := lw_s hf
      refine k_eqi hy12 ?_
      refine k_istore (lv' := [(0, .ref (al (oM G) 0)), (1, .int p1), (2, .int p2), (3, .int p3), (4, .int p4), (5, .int y12), (6, .int v6)]) (pc' := 76) h dX6_kinds_74 rfl (Nat.le_of_ble_eq_true rfl) [1, 2, 3, 4, 5, 0, 6] rfl ?_
      refine k_iinc (lv' := [(0, .ref (al (oM G) 0)), (1, .int p1), (2, .int p2), (3, .int p3), (4, .int p4), (5, .int y12), (6, .int (v6 + (1 : Int32)))]) (pc' := 79) h dX6_kinds_76 rfl 6 rfl (congrArg (fun z => v6 + z) ci_1) (Nat.le_of_ble_eq_true rfl) [1, 2, 3, 4, 5, 6, 0] rfl ?_
      refine k_goto (tgt := 44) h dX6_kinds_79 rfl ?_
      refine k_sub (lv' := [(0, .ref (al (oM G) 0)), (1, .int p1), (2, .int p2), (3, .int p3), (4, .int p4), (5, .int y12), (6, .int (v6 + (1 : Int32)))]) [0, 1, 2, 3, 4, 5, 6] rfl ?_
      exact lp_o hf K
    · replace hf := if_t c11 hf
      refine k_iconst (pc' := 66) h dX6_kinds_65 rfl ci_1 ?_
      refine k_iload (pc' := 68) h dX6_kinds_66 rfl 6 rfl ?_
      refine k_ishl (pc' := 69) h dX6_kinds_68 rfl ?_
      refine k_goto (tgt := 73) h dX6_kinds_69 rfl ?_
      refine k_ior (pc' := 74) h dX6_kinds_73 rfl ?_
      obtain ⟨y13, hy13, hf⟩ := lw_s hf
      refine k_eqi hy13 ?_
      refine k_istore (lv' := [(0, .ref (al (oM G) 0)), (1, .int p1), (2, .int p2), (3, .int p3), (4, .int p4), (5, .int y13), (6, .int v6)]) (pc' := 76) h dX6_kinds_74 rfl (Nat.le_of_ble_eq_true rfl) [1, 2, 3, 4, 5, 0, 6] rfl ?_
      refine k_iinc (lv' := [(0, .ref (al (oM G) 0)), (1, .int p1), (2, .int p2), (3, .int p3), (4, .int p4), (5, .int y13), (6, .int (v6 + (1 : Int32)))]) (pc' := 79) h dX6_kinds_76 rfl 6 rfl (congrArg (fun z => v6 + z) ci_1) (Nat.le_of_ble_eq_true rfl) [1, 2, 3, 4, 5, 6, 0] rfl ?_
      refine k_goto (tgt := 44) h dX6_kinds_79 rfl ?_
      refine k_sub (lv' := [(0, .ref (al (oM G) 0)), (1, .int p1), (2, .int p2), (3, .int p3), (4, .int p4), (5, .int y13), (6, .int (v6 + (1 : Int32)))]) [0, 1, 2, 3, 4, 5, 6] rfl ?_
      exact lp_o hf K
noncomputable def f_X6_kinds (x0 : Int32) (x1 : Int32) (x2 : Int32) (st : St) : Option (Int32 × St) :=
  ((f_X6_isRow x0 st).bind (fun q1 => (if q1.1 = 0 then (some ((-1 : Int32), q1.2)) else ((f_X6_isThing x1 q1.2).bind (fun q3 => (if q3.1 = 0 then (some ((-1 : Int32), q3.2)) else ((f_X6_isThing x2 q3.2).bind (fun q5 => (if q5.1 = 0 then (some ((-1 : Int32), q5.2)) else ((f_X6_needBook x0 q5.2).bind (fun q7 => (if 0 ≤ q7.1 then ((iter (fun v : Int32 × Int32 × St => l_X6_kinds_44 x0 x1 x2 q7.1 v.1 v.2.1 v.2.2) fuel ((0 : Int32), (0 : Int32), q7.2)).bind (fun q14 => (some (q14.1, q14.2.2)))) else (some (q7.1, q7.2))))))))))))))
set_option maxHeartbeats 4000000 in
theorem c_X6_kinds {G : GG} (l : Launch) (x0 : Int32) (x1 : Int32) (x2 : Int32) (st : St)  (rr : Int32) (st' : St) (hf : f_X6_kinds x0 x1 x2 st = some (rr, st')) : MM l yX6_kinds cX6_kinds 7 (some .int) 3 (oM G) [.ref (al (oM G) 0), .int x0, .int x1, .int x2] st (some (.int rr)) st' := by
  refine mk_MM (by decide +kernel) (Nat.le_of_ble_eq_true rfl) (fun X h r => ?_)
  refine k_sub (lv' := [(0, .ref (al (oM G) 0)), (1, .int x0), (2, .int x1), (3, .int x2)]) [0, 1, 2, 3] rfl ?_
  unfold f_X6_kinds at hf
  refine k_iload_n (pc' := 1) h dX6_kinds_0 rfl rfl 1 rfl ?_
  obtain ⟨q1, hq1, hf⟩ := bd_s hf
  refine k_callS (As := [.int x0]) (rest := []) (rv := some (.int q1.1)) (st' := q1.2) (stk' := [.int q1.1]) (pc' := 4) h dX6_kinds_1 rfl ml_X6_93 wc_X6_isRow ws_X6_isRow ⟨Nat.le_of_ble_eq_true rfl, Nat.le_of_ble_eq_true rfl⟩ rfl rfl (Nat.le_of_ble_eq_true rfl) (fun l => c_X6_isRow l x0 st  _ _ hq1) rfl ?_
  refine k_if_eq (tgt := 21) (pc' := 7) h dX6_kinds_4 rfl rfl (fun c2 => ?_) (fun c2 => ?_)
  · replace hf := if_t c2 hf
    refine k_iconst (pc' := 22) h dX6_kinds_21 rfl ci_m1 ?_
    exact k_iret h r dX6_kinds_22 (lf_i hf)
  · replace hf := if_f c2 hf
    refine k_iload_n (pc' := 8) h dX6_kinds_7 rfl rfl 2 rfl ?_
    obtain ⟨q3, hq3, hf⟩ := bd_s hf
    refine k_callS (As := [.int x1]) (rest := []) (rv := some (.int q3.1)) (st' := q3.2) (stk' := [.int q3.1]) (pc' := 11) h dX6_kinds_8 rfl ml_X6_141 wc_X6_isThing ws_X6_isThing ⟨Nat.le_of_ble_eq_true rfl, Nat.le_of_ble_eq_true rfl⟩ rfl rfl (Nat.le_of_ble_eq_true rfl) (fun l => c_X6_isThing l x1 q1.2  _ _ hq3) rfl ?_
    refine k_if_eq (tgt := 21) (pc' := 14) h dX6_kinds_11 rfl rfl (fun c4 => ?_) (fun c4 => ?_)
    · replace hf := if_t c4 hf
      refine k_iconst (pc' := 22) h dX6_kinds_21 rfl ci_m1 ?_
      exact k_iret h r dX6_kinds_22 (lf_i hf)
    · replace hf := if_f c4 hf
      refine k_iload_n (pc' := 15) h dX6_kinds_14 rfl rfl 3 rfl ?_
      obtain ⟨q5, hq5, hf⟩ := bd_s hf
      refine k_callS (As := [.int x2]) (rest := []) (rv := some (.int q5.1)) (st' := q5.2) (stk' := [.int q5.1]) (pc' := 18) h dX6_kinds_15 rfl ml_X6_141 wc_X6_isThing ws_X6_isThing ⟨Nat.le_of_ble_eq_true rfl, Nat.le_of_ble_eq_true rfl⟩ rfl rfl (Nat.le_of_ble_eq_true rfl) (fun l => c_X6_isThing l x2 q3.2  _ _ hq5) rfl ?_
      refine k_if_ne (tgt := 23) (pc' := 21) h dX6_kinds_18 rfl rfl (fun c6 => ?_) (fun c6 => ?_)
      · replace hf := if_f c6 hf
        refine k_aload_n (pc' := 24) h dX6_kinds_23 rfl rfl 0 rfl ?_
        refine k_iload_n (pc' := 25) h dX6_kinds_24 rfl rfl 1 rfl ?_
        obtain ⟨q7, hq7, hf⟩ := bd_s hf
        refine k_callV (As := [.int x0]) (rest := []) (rv := some (.int q7.1)) (st' := q7.2) (stk' := [.int q7.1]) (pc' := 28) h dX6_kinds_25 rfl ml_X6_254 wc_X6_needBook wi_X6_needBook ⟨Nat.le_of_ble_eq_true rfl, Nat.le_of_ble_eq_true rfl⟩ bM_mo rfl rfl rfl rfl (Nat.le_of_ble_eq_true rfl) (fun l => c_X6_needBook l x0 q5.2  _ _ hq7) rfl ?_
        refine k_istore (lv' := [(0, .ref (al (oM G) 0)), (1, .int x0), (2, .int x1), (3, .int x2), (4, .int q7.1)]) (pc' := 30) h dX6_kinds_28 rfl (Nat.le_of_ble_eq_true rfl) [1, 2, 3, 4, 0] rfl ?_
        refine k_iload (pc' := 32) h dX6_kinds_30 rfl 4 rfl ?_
        refine k_if_ge (tgt := 38) (pc' := 35) h dX6_kinds_32 rfl rfl (fun c8 => ?_) (fun c8 => ?_)
        · replace hf := if_t c8 hf
          refine k_iconst (pc' := 39) h dX6_kinds_38 rfl ci_0 ?_
          refine k_istore (lv' := [(0, .ref (al (oM G) 0)), (1, .int x0), (2, .int x1), (3, .int x2), (4, .int q7.1), (5, .int (0 : Int32))]) (pc' := 41) h dX6_kinds_39 rfl (Nat.le_of_ble_eq_true rfl) [1, 2, 3, 4, 5, 0] rfl ?_
          refine k_iconst (pc' := 42) h dX6_kinds_41 rfl ci_0 ?_
          refine k_istore (lv' := [(0, .ref (al (oM G) 0)), (1, .int x0), (2, .int x1), (3, .int x2), (4, .int q7.1), (5, .int (0 : Int32)), (6, .int (0 : Int32))]) (pc' := 44) h dX6_kinds_42 rfl (Nat.le_of_ble_eq_true rfl) [1, 2, 3, 4, 5, 6, 0] rfl ?_
          obtain ⟨q14, hq14, hf⟩ := bd_s hf
          refine w_X6_kinds_44 h x0 x1 x2 q7.1  fuel (0 : Int32) (0 : Int32) q7.2 q14 hq14 ?_
          refine k_iload (pc' := 84) h dX6_kinds_82 rfl 5 rfl ?_
          exact k_iret h r dX6_kinds_84 (lf_i hf)
        · replace hf := if_f c8 hf
          refine k_iload (pc' := 37) h dX6_kinds_35 rfl 4 rfl ?_
          exact k_iret h r dX6_kinds_37 (lf_i hf)
      · replace hf := if_t c6 hf
        refine k_iconst (pc' := 22) h dX6_kinds_21 rfl ci_m1 ?_
        exact k_iret h r dX6_kinds_22 (lf_i hf)
noncomputable def l_X6_lies_36 (p1 : Int32) (p2 : Int32) (v3 : Int32) (v4 : Int32) (st : St) : Option ((Int32 × Int32 × St) ⊕ (Int32 × Int32 × St)) :=
  (if (st.1 0 10) ≤ v4 then (some (.inr (v3, v4, st))) else ((f_X6_liesBy p1 v4 st).bind (fun q7 => ((f_X6_liesBy p1 v3 q7.2).bind (fun q8 => (if q8.1 ≤ q7.1 then (some (.inl (v3, v4 + (1 : Int32), q8.2))) else (some (.inl (v4, v4 + (1 : Int32), q8.2)))))))))
set_option maxHeartbeats 4000000 in
theorem w_X6_lies_36 {G : GG} {X : Cx} (h : Ok X (oM G) cX6_lies RX6 5 (RM 3))  (p1 : Int32) (p2 : Int32)  (n : Nat) (v3 : Int32) (v4 : Int32) (st : St) (q : Int32 × Int32 × St) (hq : iter (fun v : Int32 × Int32 × St => l_X6_lies_36 p1 p2 v.1 v.2.1 v.2.2) n (v3, v4, st) = some q) (kx : Wk X (oM G) 5 q.2.2 74 [(0, .ref (al (oM G) 0)), (1, .int p1), (2, .int p2), (3, .int q.1), (4, .int q.2.1)] []) : Wk X (oM G) 5 st 36 [(0, .ref (al (oM G) 0)), (1, .int p1), (2, .int p2), (3, .int v3), (4, .int v4)] [] := by
  refine iter_rule (hd := (fun v : Int32 × Int32 × St => Wk X (oM G) 5 v.2.2 36 [(0, .ref (al (oM G) 0)), (1, .int p1), (2, .int p2), (3, .int v.1), (4, .int v.2.1)] [])) (ex := (fun v : Int32 × Int32 × St => Wk X (oM G) 5 v.2.2 74 [(0, .ref (al (oM G) 0)), (1, .int p1), (2, .int p2), (3, .int v.1), (4, .int v.2.1)] [])) ?_ n (v3, v4, st) q hq kx
  rintro ⟨v3, v4, st⟩ oo hbv K
  show Wk X (oM G) 5 st 36 [(0, .ref (al (oM G) 0)), (1, .int p1), (2, .int p2), (3, .int v3), (4, .int v4)] []
  have hf : l_X6_lies_36 p1 p2 v3 v4 st = some oo := hbv
  unfold l_X6_lies_36 at hf
  refine k_iload (pc' := 38) h dX6_lies_36 rfl 4 rfl ?_
  refine k_aload_n (pc' := 39) h dX6_lies_38 rfl rfl 0 rfl ?_
  refine k_get (v := .int (st.1 0 10)) (pc' := 42) h dX6_lies_39 rfl bM_mo fl_X6_135 rfl ?_
  refine k_icmp_ge (tgt := 74) (pc' := 45) h dX6_lies_42 rfl rfl (fun c6 => ?_) (fun c6 => ?_)
  · replace hf := if_t c6 hf
    refine k_sub (lv' := [(0, .ref (al (oM G) 0)), (1, .int p1), (2, .int p2), (3, .int v3), (4, .int v4)]) [0, 1, 2, 3, 4] rfl ?_
    exact lp_o hf K
  · replace hf := if_f c6 hf
    refine k_aload_n (pc' := 46) h dX6_lies_45 rfl rfl 0 rfl ?_
    refine k_iload_n (pc' := 47) h dX6_lies_46 rfl rfl 1 rfl ?_
    refine k_iload (pc' := 49) h dX6_lies_47 rfl 4 rfl ?_
    obtain ⟨q7, hq7, hf⟩ := bd_s hf
    refine k_callV (As := [.int p1, .int v4]) (rest := []) (rv := some (.int q7.1)) (st' := q7.2) (stk' := [.int q7.1]) (pc' := 52) h dX6_lies_49 rfl ml_X6_257 wc_X6_liesBy wi_X6_liesBy ⟨Nat.le_of_ble_eq_true rfl, Nat.le_of_ble_eq_true rfl⟩ bM_mo rfl rfl rfl rfl (Nat.le_of_ble_eq_true rfl) (fun l => c_X6_liesBy l p1 v4 st  _ _ hq7) rfl ?_
    refine k_aload_n (pc' := 53) h dX6_lies_52 rfl rfl 0 rfl ?_
    refine k_iload_n (pc' := 54) h dX6_lies_53 rfl rfl 1 rfl ?_
    refine k_iload_n (pc' := 55) h dX6_lies_54 rfl rfl 3 rfl ?_
    obtain ⟨q8, hq8, hf⟩ := bd_s hf
    refine k_callV (As := [.int p1, .int v3]) (rest := [.int q7.1]) (rv := some (.int q8.1)) (st' := q8.2) (stk' := [.int q8.1, .int q7.1]) (pc' := 58) h dX6_lies_55 rfl ml_X6_257 wc_X6_liesBy wi_X6_liesBy ⟨Nat.le_of_ble_eq_true rfl, Nat.le_of_ble_eq_true rfl⟩ bM_mo rfl rfl rfl rfl (Nat.le_of_ble_eq_true rfl) (fun l => c_X6_liesBy l p1 v3 q7.2  _ _ hq8) rfl ?_
    refine k_icmp_ge (tgt := 66) (pc' := 61) h dX6_lies_58 rfl rfl (fun c9 => ?_) (fun c9 => ?_)
    · replace hf := if_t c9 hf
      refine k_iload_n (pc' := 67) h dX6_lies_66 rfl rfl 3 rfl ?_
      refine k_istore_n (lv' := [(0, .ref (al (oM G) 0)), (1, .int p1), (2, .int p2), (3, .int v3), (4, .int v4)]) (pc' := 68) h dX6_lies_67 rfl rfl (Nat.le_of_ble_eq_true rfl) [1, 2, 3, 0, 4] rfl ?_
      refine k_iinc (lv' := [(0, .ref (al (oM G) 0)), (1, .int p1), (2, .int p2), (3, .int v3), (4, .int (v4 + (1 : Int32)))]) (pc' := 71) h dX6_lies_68 rfl 4 rfl (congrArg (fun z => v4 + z) ci_1) (Nat.le_of_ble_eq_true rfl) [1, 2, 3, 4, 0] rfl ?_
      refine k_goto (tgt := 36) h dX6_lies_71 rfl ?_
      refine k_sub (lv' := [(0, .ref (al (oM G) 0)), (1, .int p1), (2, .int p2), (3, .int v3), (4, .int (v4 + (1 : Int32)))]) [0, 1, 2, 3, 4] rfl ?_
      exact lp_o hf K
    · replace hf := if_f c9 hf
      refine k_iload (pc' := 63) h dX6_lies_61 rfl 4 rfl ?_
      refine k_goto (tgt := 67) h dX6_lies_63 rfl ?_
      refine k_istore_n (lv' := [(0, .ref (al (oM G) 0)), (1, .int p1), (2, .int p2), (3, .int v4), (4, .int v4)]) (pc' := 68) h dX6_lies_67 rfl rfl (Nat.le_of_ble_eq_true rfl) [1, 2, 3, 0, 4] rfl ?_
      refine k_iinc (lv' := [(0, .ref (al (oM G) 0)), (1, .int p1), (2, .int p2), (3, .int v4), (4, .int (v4 + (1 : Int32)))]) (pc' := 71) h dX6_lies_68 rfl 4 rfl (congrArg (fun z => v4 + z) ci_1) (Nat.le_of_ble_eq_true rfl) [1, 2, 3, 4, 0] rfl ?_
      refine k_goto (tgt := 36) h dX6_lies_71 rfl ?_
      refine k_sub (lv' := [(0, .ref (al (oM G) 0)), (1, .int p1), (2, .int p2), (3, .int v4), (4, .int (v4 + (1 : Int32)))]) [0, 1, 2, 3, 4] rfl ?_
      exact lp_o hf K
noncomputable def f_X6_lies (x0 : Int32) (st : St) : Option (Int32 × St) :=
  ((f_X6_isRow x0 st).bind (fun q1 => (if q1.1 = 0 then (some ((-1 : Int32), q1.2)) else (if (q1.2.1 0 10) = 0 then (some ((-4 : Int32), q1.2)) else ((f_X6_needBook x0 q1.2).bind (fun q4 => (if 0 ≤ q4.1 then ((iter (fun v : Int32 × Int32 × St => l_X6_lies_36 x0 q4.1 v.1 v.2.1 v.2.2) fuel ((0 : Int32), (0 : Int32), q4.2)).bind (fun q10 => ((f_X6_liesBy x0 q10.1 q10.2.2).bind (fun q11 => ((f_X6_tells q10.1 q11.1 q11.2).bind (fun q12 => (some (q12.1, q12.2)))))))) else (some (q4.1, q4.2)))))))))
set_option maxHeartbeats 4000000 in
theorem c_X6_lies {G : GG} (l : Launch) (x0 : Int32) (st : St)  (rr : Int32) (st' : St) (hf : f_X6_lies x0 st = some (rr, st')) : MM l yX6_lies cX6_lies 5 (some .int) 3 (oM G) [.ref (al (oM G) 0), .int x0] st (some (.int rr)) st' := by
  refine mk_MM (by decide +kernel) (Nat.le_of_ble_eq_true rfl) (fun X h r => ?_)
  refine k_sub (lv' := [(0, .ref (al (oM G) 0)), (1, .int x0)]) [0, 1] rfl ?_
  unfold f_X6_lies at hf
  refine k_iload_n (pc' := 1) h dX6_lies_0 rfl rfl 1 rfl ?_
  obtain ⟨q1, hq1, hf⟩ := bd_s hf
  refine k_callS (As := [.int x0]) (rest := []) (rv := some (.int q1.1)) (st' := q1.2) (stk' := [.int q1.1]) (pc' := 4) h dX6_lies_1 rfl ml_X6_93 wc_X6_isRow ws_X6_isRow ⟨Nat.le_of_ble_eq_true rfl, Nat.le_of_ble_eq_true rfl⟩ rfl rfl (Nat.le_of_ble_eq_true rfl) (fun l => c_X6_isRow l x0 st  _ _ hq1) rfl ?_
  refine k_if_ne (tgt := 9) (pc' := 7) h dX6_lies_4 rfl rfl (fun c2 => ?_) (fun c2 => ?_)
  · replace hf := if_f c2 hf
    refine k_aload_n (pc' := 10) h dX6_lies_9 rfl rfl 0 rfl ?_
    refine k_get (v := .int (q1.2.1 0 10)) (pc' := 13) h dX6_lies_10 rfl bM_mo fl_X6_135 rfl ?_
    refine k_if_ne (tgt := 19) (pc' := 16) h dX6_lies_13 rfl rfl (fun c3 => ?_) (fun c3 => ?_)
    · replace hf := if_f c3 hf
      refine k_aload_n (pc' := 20) h dX6_lies_19 rfl rfl 0 rfl ?_
      refine k_iload_n (pc' := 21) h dX6_lies_20 rfl rfl 1 rfl ?_
      obtain ⟨q4, hq4, hf⟩ := bd_s hf
      refine k_callV (As := [.int x0]) (rest := []) (rv := some (.int q4.1)) (st' := q4.2) (stk' := [.int q4.1]) (pc' := 24) h dX6_lies_21 rfl ml_X6_254 wc_X6_needBook wi_X6_needBook ⟨Nat.le_of_ble_eq_true rfl, Nat.le_of_ble_eq_true rfl⟩ bM_mo rfl rfl rfl rfl (Nat.le_of_ble_eq_true rfl) (fun l => c_X6_needBook l x0 q1.2  _ _ hq4) rfl ?_
      refine k_istore_n (lv' := [(0, .ref (al (oM G) 0)), (1, .int x0), (2, .int q4.1)]) (pc' := 25) h dX6_lies_24 rfl rfl (Nat.le_of_ble_eq_true rfl) [1, 2, 0] rfl ?_
      refine k_iload_n (pc' := 26) h dX6_lies_25 rfl rfl 2 rfl ?_
      refine k_if_ge (tgt := 31) (pc' := 29) h dX6_lies_26 rfl rfl (fun c5 => ?_) (fun c5 => ?_)
      · replace hf := if_t c5 hf
        refine k_iconst (pc' := 32) h dX6_lies_31 rfl ci_0 ?_
        refine k_istore_n (lv' := [(0, .ref (al (oM G) 0)), (1, .int x0), (2, .int q4.1), (3, .int (0 : Int32))]) (pc' := 33) h dX6_lies_32 rfl rfl (Nat.le_of_ble_eq_true rfl) [1, 2, 3, 0] rfl ?_
        refine k_iconst (pc' := 34) h dX6_lies_33 rfl ci_0 ?_
        refine k_istore (lv' := [(0, .ref (al (oM G) 0)), (1, .int x0), (2, .int q4.1), (3, .int (0 : Int32)), (4, .int (0 : Int32))]) (pc' := 36) h dX6_lies_34 rfl (Nat.le_of_ble_eq_true rfl) [1, 2, 3, 4, 0] rfl ?_
        obtain ⟨q10, hq10, hf⟩ := bd_s hf
        refine w_X6_lies_36 h x0 q4.1  fuel (0 : Int32) (0 : Int32) q4.2 q10 hq10 ?_
        refine k_aload_n (pc' := 75) h dX6_lies_74 rfl rfl 0 rfl ?_
        refine k_iload_n (pc' := 76) h dX6_lies_75 rfl rfl 3 rfl ?_
        refine k_aload_n (pc' := 77) h dX6_lies_76 rfl rfl 0 rfl ?_
        refine k_iload_n (pc' := 78) h dX6_lies_77 rfl rfl 1 rfl ?_
        refine k_iload_n (pc' := 79) h dX6_lies_78 rfl rfl 3 rfl ?_
        obtain ⟨q11, hq11, hf⟩ := bd_s hf
        refine k_callV (As := [.int x0, .int q10.1]) (rest := [.int q10.1, .ref (al (oM G) 0)]) (rv := some (.int q11.1)) (st' := q11.2) (stk' := [.int q11.1, .int q10.1, .ref (al (oM G) 0)]) (pc' := 82) h dX6_lies_79 rfl ml_X6_257 wc_X6_liesBy wi_X6_liesBy ⟨Nat.le_of_ble_eq_true rfl, Nat.le_of_ble_eq_true rfl⟩ bM_mo rfl rfl rfl rfl (Nat.le_of_ble_eq_true rfl) (fun l => c_X6_liesBy l x0 q10.1 q10.2.2  _ _ hq11) rfl ?_
        obtain ⟨q12, hq12, hf⟩ := bd_s hf
        refine k_callV (As := [.int q10.1, .int q11.1]) (rest := []) (rv := some (.int q12.1)) (st' := q12.2) (stk' := [.int q12.1]) (pc' := 85) h dX6_lies_82 rfl ml_X6_105 wc_X6_tells wi_X6_tells ⟨Nat.le_of_ble_eq_true rfl, Nat.le_of_ble_eq_true rfl⟩ bM_mo rfl rfl rfl rfl (Nat.le_of_ble_eq_true rfl) (fun l => c_X6_tells l q10.1 q11.1 q11.2  _ _ hq12) rfl ?_
        exact k_iret h r dX6_lies_85 (lf_i hf)
      · replace hf := if_f c5 hf
        refine k_iload_n (pc' := 30) h dX6_lies_29 rfl rfl 2 rfl ?_
        exact k_iret h r dX6_lies_30 (lf_i hf)
    · replace hf := if_t c3 hf
      refine k_bipush (pc' := 18) h dX6_lies_16 rfl cb_m4 ?_
      exact k_iret h r dX6_lies_18 (lf_i hf)
  · replace hf := if_t c2 hf
    refine k_iconst (pc' := 8) h dX6_lies_7 rfl ci_m1 ?_
    exact k_iret h r dX6_lies_8 (lf_i hf)
noncomputable def l_X6_apart_49 (p1 : Int32) (p2 : Int32) (p3 : Int32) (p4 : Int32) (v5 : Int32) (st : St) : Option ((Int32 × St) ⊕ ((Int32 × St) ⊕ (Int32 × St))) :=
  (if p4 < v5 then (some (.inr (.inr (v5, st)))) else ((f_X6_wantsOn p1 v5 st).bind (fun q11 => ((f_X6_wantsOn p2 v5 q11.2).bind (fun q12 => (if q11.1 = q12.1 then (some (.inl (v5 + (1 : Int32), q12.2))) else (some (.inr (.inl (v5, q12.2))))))))))
set_option maxHeartbeats 4000000 in
theorem w_X6_apart_49 {G : GG} {X : Cx} (h : Ok X (oM G) cX6_apart RX6 6 (RM 2)) {P : Option Value → St → Prop} (r : Rt X (oM G) P (some .int)) (p1 : Int32) (p2 : Int32) (p3 : Int32) (p4 : Int32)  (n : Nat) (v5 : Int32) (st : St) (q : (Int32 × St) ⊕ (Int32 × St)) (hq : iter (fun v : Int32 × St => l_X6_apart_49 p1 p2 p3 p4 v.1 v.2) n (v5, st) = some q) (kr : ∀ rs, q = .inl rs → P (some (.int rs.1)) rs.2) (kx : ∀ v : Int32 × St, q = .inr v → Wk X (oM G) 6 v.2 82 [(0, .ref (al (oM G) 0)), (1, .int p1), (2, .int p2), (3, .int p3), (4, .int p4), (5, .int v.1)] []) : Wk X (oM G) 6 st 49 [(0, .ref (al (oM G) 0)), (1, .int p1), (2, .int p2), (3, .int p3), (4, .int p4), (5, .int v5)] [] := by
  refine iter_rule (hd := (fun v : Int32 × St => Wk X (oM G) 6 v.2 49 [(0, .ref (al (oM G) 0)), (1, .int p1), (2, .int p2), (3, .int p3), (4, .int p4), (5, .int v.1)] [])) (ex := (Sum.elim (fun rs : Int32 × St => P (some (.int rs.1)) rs.2) (fun v : Int32 × St => Wk X (oM G) 6 v.2 82 [(0, .ref (al (oM G) 0)), (1, .int p1), (2, .int p2), (3, .int p3), (4, .int p4), (5, .int v.1)] []))) ?_ n (v5, st) q hq (by cases q with
    | inl rs => exact kr rs rfl
    | inr v => exact kx v rfl)
  rintro ⟨v5, st⟩ oo hbv K
  show Wk X (oM G) 6 st 49 [(0, .ref (al (oM G) 0)), (1, .int p1), (2, .int p2), (3, .int p3), (4, .int p4), (5, .int v5)] []
  have hf : l_X6_apart_49 p1 p2 p3 p4 v5 st = some oo := hbv
  unfold l_X6_apart_49 at hf
  refine k_iload (pc' := 51) h dX6_apart_49 rfl 5 rfl ?_
  refine k_iload (pc' := 53) h dX6_apart_51 rfl 4 rfl ?_
  refine k_icmp_gt (tgt := 82) (pc' := 56) h dX6_apart_53 rfl rfl (fun c10 => ?_) (fun c10 => ?_)
  · replace hf := if_t c10 hf
    refine k_sub (lv' := [(0, .ref (al (oM G) 0)), (1, .int p1), (2, .int p2), (3, .int p3), (4, .int p4), (5, .int v5)]) [0, 1, 2, 3, 4, 5] rfl ?_
    exact lp_o hf K
  · replace hf := if_f c10 hf
    refine k_aload_n (pc' := 57) h dX6_apart_56 rfl rfl 0 rfl ?_
    refine k_iload_n (pc' := 58) h dX6_apart_57 rfl rfl 1 rfl ?_
    refine k_iload (pc' := 60) h dX6_apart_58 rfl 5 rfl ?_
    obtain ⟨q11, hq11, hf⟩ := bd_s hf
    refine k_callV (As := [.int p1, .int v5]) (rest := []) (rv := some (.int q11.1)) (st' := q11.2) (stk' := [.int q11.1]) (pc' := 63) h dX6_apart_60 rfl ml_X6_148 wc_X6_wantsOn wi_X6_wantsOn ⟨Nat.le_of_ble_eq_true rfl, Nat.le_of_ble_eq_true rfl⟩ bM_mo rfl rfl rfl rfl (Nat.le_of_ble_eq_true rfl) (fun l => c_X6_wantsOn l p1 v5 st  _ _ hq11) rfl ?_
    refine k_aload_n (pc' := 64) h dX6_apart_63 rfl rfl 0 rfl ?_
    refine k_iload_n (pc' := 65) h dX6_apart_64 rfl rfl 2 rfl ?_
    refine k_iload (pc' := 67) h dX6_apart_65 rfl 5 rfl ?_
    obtain ⟨q12, hq12, hf⟩ := bd_s hf
    refine k_callV (As := [.int p2, .int v5]) (rest := [.int q11.1]) (rv := some (.int q12.1)) (st' := q12.2) (stk' := [.int q12.1, .int q11.1]) (pc' := 70) h dX6_apart_67 rfl ml_X6_148 wc_X6_wantsOn wi_X6_wantsOn ⟨Nat.le_of_ble_eq_true rfl, Nat.le_of_ble_eq_true rfl⟩ bM_mo rfl rfl rfl rfl (Nat.le_of_ble_eq_true rfl) (fun l => c_X6_wantsOn l p2 v5 q11.2  _ _ hq12) rfl ?_
    refine k_icmp_eq (tgt := 76) (pc' := 73) h dX6_apart_70 rfl rfl (fun c13 => ?_) (fun c13 => ?_)
    · replace hf := if_t c13 hf
      refine k_iinc (lv' := [(0, .ref (al (oM G) 0)), (1, .int p1), (2, .int p2), (3, .int p3), (4, .int p4), (5, .int (v5 + (1 : Int32)))]) (pc' := 79) h dX6_apart_76 rfl 5 rfl (congrArg (fun z => v5 + z) ci_1) (Nat.le_of_ble_eq_true rfl) [1, 2, 3, 4, 5, 0] rfl ?_
      refine k_goto (tgt := 49) h dX6_apart_79 rfl ?_
      refine k_sub (lv' := [(0, .ref (al (oM G) 0)), (1, .int p1), (2, .int p2), (3, .int p3), (4, .int p4), (5, .int (v5 + (1 : Int32)))]) [0, 1, 2, 3, 4, 5] rfl ?_
      exact lp_o hf K
    · replace hf := if_f c13 hf
      refine k_iload (pc' := 75) h dX6_apart_73 rfl 5 rfl ?_
      exact k_iret h r dX6_apart_75 (lp_o hf K)
noncomputable def f_X6_apart (x0 : Int32) (x1 : Int32) (x2 : Int32) (x3 : Int32) (st : St) : Option (Int32 × St) :=
  ((f_X6_isRegular x0 st).bind (fun q1 => (if q1.1 = 0 then (some ((-1 : Int32), q1.2)) else ((f_X6_isRegular x1 q1.2).bind (fun q3 => (if q3.1 = 0 then (some ((-1 : Int32), q3.2)) else (if x0 = x1 then (some ((-1 : Int32), q3.2)) else ((f_X6_in x2 (0 : Int32) (999 : Int32) q3.2).bind (fun q6 => (if q6.1 = 0 then (some ((-1 : Int32), q6.2)) else ((f_X6_in x3 x2 (999 : Int32) q6.2).bind (fun q8 => (if q8.1 = 0 then (some ((-1 : Int32), q8.2)) else ((iter (fun v : Int32 × St => l_X6_apart_49 x0 x1 x2 x3 v.1 v.2) fuel (x2, q8.2)).bind (fun q14 => Sum.elim (fun rs16 => some rs16) (fun v15 => (some ((-9 : Int32), v15.2))) q14)))))))))))))))
set_option maxHeartbeats 4000000 in
theorem c_X6_apart {G : GG} (l : Launch) (x0 : Int32) (x1 : Int32) (x2 : Int32) (x3 : Int32) (st : St)  (rr : Int32) (st' : St) (hf : f_X6_apart x0 x1 x2 x3 st = some (rr, st')) : MM l yX6_apart cX6_apart 6 (some .int) 2 (oM G) [.ref (al (oM G) 0), .int x0, .int x1, .int x2, .int x3] st (some (.int rr)) st' := by
  refine mk_MM (by decide +kernel) (Nat.le_of_ble_eq_true rfl) (fun X h r => ?_)
  refine k_sub (lv' := [(0, .ref (al (oM G) 0)), (1, .int x0), (2, .int x1), (3, .int x2), (4, .int x3)]) [0, 1, 2, 3, 4] rfl ?_
  unfold f_X6_apart at hf
  refine k_aload_n (pc' := 1) h dX6_apart_0 rfl rfl 0 rfl ?_
  refine k_iload_n (pc' := 2) h dX6_apart_1 rfl rfl 1 rfl ?_
  obtain ⟨q1, hq1, hf⟩ := bd_s hf
  refine k_callV (As := [.int x0]) (rest := []) (rv := some (.int q1.1)) (st' := q1.2) (stk' := [.int q1.1]) (pc' := 5) h dX6_apart_2 rfl ml_X6_163 wc_X6_isRegular wi_X6_isRegular ⟨Nat.le_of_ble_eq_true rfl, Nat.le_of_ble_eq_true rfl⟩ bM_mo rfl rfl rfl rfl (Nat.le_of_ble_eq_true rfl) (fun l => c_X6_isRegular l x0 st  _ _ hq1) rfl ?_
  refine k_if_eq (tgt := 44) (pc' := 8) h dX6_apart_5 rfl rfl (fun c2 => ?_) (fun c2 => ?_)
  · replace hf := if_t c2 hf
    refine k_iconst (pc' := 45) h dX6_apart_44 rfl ci_m1 ?_
    exact k_iret h r dX6_apart_45 (lf_i hf)
  · replace hf := if_f c2 hf
    refine k_aload_n (pc' := 9) h dX6_apart_8 rfl rfl 0 rfl ?_
    refine k_iload_n (pc' := 10) h dX6_apart_9 rfl rfl 2 rfl ?_
    obtain ⟨q3, hq3, hf⟩ := bd_s hf
    refine k_callV (As := [.int x1]) (rest := []) (rv := some (.int q3.1)) (st' := q3.2) (stk' := [.int q3.1]) (pc' := 13) h dX6_apart_10 rfl ml_X6_163 wc_X6_isRegular wi_X6_isRegular ⟨Nat.le_of_ble_eq_true rfl, Nat.le_of_ble_eq_true rfl⟩ bM_mo rfl rfl rfl rfl (Nat.le_of_ble_eq_true rfl) (fun l => c_X6_isRegular l x1 q1.2  _ _ hq3) rfl ?_
    refine k_if_eq (tgt := 44) (pc' := 16) h dX6_apart_13 rfl rfl (fun c4 => ?_) (fun c4 => ?_)
    · replace hf := if_t c4 hf
      refine k_iconst (pc' := 45) h dX6_apart_44 rfl ci_m1 ?_
      exact k_iret h r dX6_apart_45 (lf_i hf)
    · replace hf := if_f c4 hf
      refine k_iload_n (pc' := 17) h dX6_apart_16 rfl rfl 1 rfl ?_
      refine k_iload_n (pc' := 18) h dX6_apart_17 rfl rfl 2 rfl ?_
      refine k_icmp_eq (tgt := 44) (pc' := 21) h dX6_apart_18 rfl rfl (fun c5 => ?_) (fun c5 => ?_)
      · replace hf := if_t c5 hf
        refine k_iconst (pc' := 45) h dX6_apart_44 rfl ci_m1 ?_
        exact k_iret h r dX6_apart_45 (lf_i hf)
      · replace hf := if_f c5 hf
        refine k_iload_n (pc' := 22) h dX6_apart_21 rfl rfl 3 rfl ?_
        refine k_iconst (pc' := 23) h dX6_apart_22 rfl ci_0 ?_
        refine k_sipush (pc' := 26) h dX6_apart_23 rfl cs_999 ?_
        obtain ⟨q6, hq6, hf⟩ := bd_s hf
        refine k_callS (As := [.int x2, .int (0 : Int32), .int (999 : Int32)]) (rest := []) (rv := some (.int q6.1)) (st' := q6.2) (stk' := [.int q6.1]) (pc' := 29) h dX6_apart_26 rfl ml_X6_83 wc_X6_in ws_X6_in ⟨Nat.le_of_ble_eq_true rfl, Nat.le_of_ble_eq_true rfl⟩ rfl rfl (Nat.le_of_ble_eq_true rfl) (fun l => c_X6_in l x2 (0 : Int32) (999 : Int32) q3.2  _ _ hq6) rfl ?_
        refine k_if_eq (tgt := 44) (pc' := 32) h dX6_apart_29 rfl rfl (fun c7 => ?_) (fun c7 => ?_)
        · replace hf := if_t c7 hf
          refine k_iconst (pc' := 45) h dX6_apart_44 rfl ci_m1 ?_
          exact k_iret h r dX6_apart_45 (lf_i hf)
        · replace hf := if_f c7 hf
          refine k_iload (pc' := 34) h dX6_apart_32 rfl 4 rfl ?_
          refine k_iload_n (pc' := 35) h dX6_apart_34 rfl rfl 3 rfl ?_
          refine k_sipush (pc' := 38) h dX6_apart_35 rfl cs_999 ?_
          obtain ⟨q8, hq8, hf⟩ := bd_s hf
          refine k_callS (As := [.int x3, .int x2, .int (999 : Int32)]) (rest := []) (rv := some (.int q8.1)) (st' := q8.2) (stk' := [.int q8.1]) (pc' := 41) h dX6_apart_38 rfl ml_X6_83 wc_X6_in ws_X6_in ⟨Nat.le_of_ble_eq_true rfl, Nat.le_of_ble_eq_true rfl⟩ rfl rfl (Nat.le_of_ble_eq_true rfl) (fun l => c_X6_in l x3 x2 (999 : Int32) q6.2  _ _ hq8) rfl ?_
          refine k_if_ne (tgt := 46) (pc' := 44) h dX6_apart_41 rfl rfl (fun c9 => ?_) (fun c9 => ?_)
          · replace hf := if_f c9 hf
            refine k_iload_n (pc' := 47) h dX6_apart_46 rfl rfl 3 rfl ?_
            refine k_istore (lv' := [(0, .ref (al (oM G) 0)), (1, .int x0), (2, .int x1), (3, .int x2), (4, .int x3), (5, .int x2)]) (pc' := 49) h dX6_apart_47 rfl (Nat.le_of_ble_eq_true rfl) [1, 2, 3, 4, 5, 0] rfl ?_
            obtain ⟨q14, hq14, hf⟩ := bd_s hf
            refine w_X6_apart_49 h r x0 x1 x2 x3  fuel x2 q8.2 q14 hq14 (fun rs16 ers16 => ?_) (fun v15 ev15 => ?_)
            · subst ers16
              exact lf_i hf
            · subst ev15
              replace hf := sel_r hf
              refine k_bipush (pc' := 84) h dX6_apart_82 rfl cb_m9 ?_
              exact k_iret h r dX6_apart_84 (lf_i hf)
          · replace hf := if_t c9 hf
            refine k_iconst (pc' := 45) h dX6_apart_44 rfl ci_m1 ?_
            exact k_iret h r dX6_apart_45 (lf_i hf)
noncomputable def f_X6_everybody  (st : St) : Option (Int32 × St) :=
  (some (((1 : Int32) <<< ((st.1 0 10) &&& 31)) - (1 : Int32), st))
set_option maxHeartbeats 4000000 in
theorem c_X6_everybody {G : GG} (l : Launch)  (st : St)  (rr : Int32) (st' : St) (hf : f_X6_everybody  st = some (rr, st')) : MM l yX6_everybody cX6_everybody 1 (some .int) 0 (oM G) [.ref (al (oM G) 0)] st (some (.int rr)) st' := by
  refine mk_MM (by decide +kernel) (Nat.le_of_ble_eq_true rfl) (fun X h r => ?_)
  refine k_sub (lv' := [(0, .ref (al (oM G) 0))]) [0] rfl ?_
  unfold f_X6_everybody at hf
  refine k_iconst (pc' := 1) h dX6_everybody_0 rfl ci_1 ?_
  refine k_aload_n (pc' := 2) h dX6_everybody_1 rfl rfl 0 rfl ?_
  refine k_get (v := .int (st.1 0 10)) (pc' := 5) h dX6_everybody_2 rfl bM_mo fl_X6_135 rfl ?_
  refine k_ishl (pc' := 6) h dX6_everybody_5 rfl ?_
  refine k_iconst (pc' := 7) h dX6_everybody_6 rfl ci_1 ?_
  refine k_isub (pc' := 8) h dX6_everybody_7 rfl ?_
  exact k_iret h r dX6_everybody_8 (lf_i hf)
noncomputable def f_X6_sour (x0 : Int32) (st : St) : Option (Int32 × St) :=
  ((f_X6_isThing x0 st).bind (fun q1 => (if q1.1 = 0 then (some ((-1 : Int32), q1.2)) else ((f_X6_everybody  q1.2).bind (fun q3 => ((f_X6_soured q3.1 x0 q3.2).bind (fun q4 => ((f_X6_bits q4.1 q4.2).bind (fun q5 => ((f_X6_tells q4.1 q5.1 q5.2).bind (fun q6 => (some (q6.1, q6.2)))))))))))))
set_option maxHeartbeats 4000000 in
theorem c_X6_sour {G : GG} (l : Launch) (x0 : Int32) (st : St)  (rr : Int32) (st' : St) (hf : f_X6_sour x0 st = some (rr, st')) : MM l yX6_sour cX6_sour 3 (some .int) 5 (oM G) [.ref (al (oM G) 0), .int x0] st (some (.int rr)) st' := by
  refine mk_MM (by decide +kernel) (Nat.le_of_ble_eq_true rfl) (fun X h r => ?_)
  refine k_sub (lv' := [(0, .ref (al (oM G) 0)), (1, .int x0)]) [0, 1] rfl ?_
  unfold f_X6_sour at hf
  refine k_iload_n (pc' := 1) h dX6_sour_0 rfl rfl 1 rfl ?_
  obtain ⟨q1, hq1, hf⟩ := bd_s hf
  refine k_callS (As := [.int x0]) (rest := []) (rv := some (.int q1.1)) (st' := q1.2) (stk' := [.int q1.1]) (pc' := 4) h dX6_sour_1 rfl ml_X6_141 wc_X6_isThing ws_X6_isThing ⟨Nat.le_of_ble_eq_true rfl, Nat.le_of_ble_eq_true rfl⟩ rfl rfl (Nat.le_of_ble_eq_true rfl) (fun l => c_X6_isThing l x0 st  _ _ hq1) rfl ?_
  refine k_if_ne (tgt := 9) (pc' := 7) h dX6_sour_4 rfl rfl (fun c2 => ?_) (fun c2 => ?_)
  · replace hf := if_f c2 hf
    refine k_aload_n (pc' := 10) h dX6_sour_9 rfl rfl 0 rfl ?_
    refine k_aload_n (pc' := 11) h dX6_sour_10 rfl rfl 0 rfl ?_
    obtain ⟨q3, hq3, hf⟩ := bd_s hf
    refine k_callV (As := []) (rest := [.ref (al (oM G) 0)]) (rv := some (.int q3.1)) (st' := q3.2) (stk' := [.int q3.1, .ref (al (oM G) 0)]) (pc' := 14) h dX6_sour_11 rfl ml_X6_260 wc_X6_everybody wi_X6_everybody ⟨Nat.le_of_ble_eq_true rfl, Nat.le_of_ble_eq_true rfl⟩ bM_mo rfl rfl rfl rfl (Nat.le_of_ble_eq_true rfl) (fun l => c_X6_everybody l  q1.2  _ _ hq3) rfl ?_
    refine k_iload_n (pc' := 15) h dX6_sour_14 rfl rfl 1 rfl ?_
    obtain ⟨q4, hq4, hf⟩ := bd_s hf
    refine k_callV (As := [.int q3.1, .int x0]) (rest := []) (rv := some (.int q4.1)) (st' := q4.2) (stk' := [.int q4.1]) (pc' := 18) h dX6_sour_15 rfl ml_X6_220 wc_X6_soured wi_X6_soured ⟨Nat.le_of_ble_eq_true rfl, Nat.le_of_ble_eq_true rfl⟩ bM_mo rfl rfl rfl rfl (Nat.le_of_ble_eq_true rfl) (fun l => c_X6_soured l q3.1 x0 q3.2  _ _ hq4) rfl ?_
    refine k_istore_n (lv' := [(0, .ref (al (oM G) 0)), (1, .int x0), (2, .int q4.1)]) (pc' := 19) h dX6_sour_18 rfl rfl (Nat.le_of_ble_eq_true rfl) [1, 2, 0] rfl ?_
    refine k_aload_n (pc' := 20) h dX6_sour_19 rfl rfl 0 rfl ?_
    refine k_iload_n (pc' := 21) h dX6_sour_20 rfl rfl 2 rfl ?_
    refine k_iload_n (pc' := 22) h dX6_sour_21 rfl rfl 2 rfl ?_
    obtain ⟨q5, hq5, hf⟩ := bd_s hf
    refine k_callS (As := [.int q4.1]) (rest := [.int q4.1, .ref (al (oM G) 0)]) (rv := some (.int q5.1)) (st' := q5.2) (stk' := [.int q5.1, .int q4.1, .ref (al (oM G) 0)]) (pc' := 25) h dX6_sour_22 rfl ml_X6_223 wc_X6_bits ws_X6_bits ⟨Nat.le_of_ble_eq_true rfl, Nat.le_of_ble_eq_true rfl⟩ rfl rfl (Nat.le_of_ble_eq_true rfl) (fun l => c_X6_bits l q4.1 q4.2  _ _ hq5) rfl ?_
    obtain ⟨q6, hq6, hf⟩ := bd_s hf
    refine k_callV (As := [.int q4.1, .int q5.1]) (rest := []) (rv := some (.int q6.1)) (st' := q6.2) (stk' := [.int q6.1]) (pc' := 28) h dX6_sour_25 rfl ml_X6_105 wc_X6_tells wi_X6_tells ⟨Nat.le_of_ble_eq_true rfl, Nat.le_of_ble_eq_true rfl⟩ bM_mo rfl rfl rfl rfl (Nat.le_of_ble_eq_true rfl) (fun l => c_X6_tells l q4.1 q5.1 q5.2  _ _ hq6) rfl ?_
    exact k_iret h r dX6_sour_28 (lf_i hf)
  · replace hf := if_t c2 hf
    refine k_iconst (pc' := 8) h dX6_sour_7 rfl ci_m1 ?_
    exact k_iret h r dX6_sour_8 (lf_i hf)
noncomputable def l_X6_power_4 (p0 : Int32) (p1 : Int32) (v2 : Int32) (v3 : Int32) (st : St) : Option ((Int32 × Int32 × St) ⊕ (Int32 × Int32 × St)) :=
  (if p1 ≤ v3 then (some (.inr (v2, v3, st))) else (lw (v2 * p0) (fun y2 => (some (.inl (y2, v3 + (1 : Int32), st))))))
set_option maxHeartbeats 4000000 in
theorem w_X6_power_4 {G : GG} {X : Cx} (h : Ok X (oM G) cX6_power RX6 4 (RM 0))  (p0 : Int32) (p1 : Int32)  (n : Nat) (v2 : Int32) (v3 : Int32) (st : St) (q : Int32 × Int32 × St) (hq : iter (fun v : Int32 × Int32 × St => l_X6_power_4 p0 p1 v.1 v.2.1 v.2.2) n (v2, v3, st) = some q) (kx : Wk X (oM G) 4 q.2.2 19 [(0, .int p0), (1, .int p1), (2, .int q.1), (3, .int q.2.1)] []) : Wk X (oM G) 4 st 4 [(0, .int p0), (1, .int p1), (2, .int v2), (3, .int v3)] [] := by
  refine iter_rule (hd := (fun v : Int32 × Int32 × St => Wk X (oM G) 4 v.2.2 4 [(0, .int p0), (1, .int p1), (2, .int v.1), (3, .int v.2.1)] [])) (ex := (fun v : Int32 × Int32 × St => Wk X (oM G) 4 v.2.2 19 [(0, .int p0), (1, .int p1), (2, .int v.1), (3, .int v.2.1)] [])) ?_ n (v2, v3, st) q hq kx
  rintro ⟨v2, v3, st⟩ oo hbv K
  show Wk X (oM G) 4 st 4 [(0, .int p0), (1, .int p1), (2, .int v2), (3, .int v3)] []
  have hf : l_X6_power_4 p0 p1 v2 v3 st = some oo := hbv
  unfold l_X6_power_4 at hf
  refine k_iload_n (pc' := 5) h dX6_power_4 rfl rfl 3 rfl ?_
  refine k_iload_n (pc' := 6) h dX6_power_5 rfl rfl 1 rfl ?_
  refine k_icmp_ge (tgt := 19) (pc' := 9) h dX6_power_6 rfl rfl (fun c1 => ?_) (fun c1 => ?_)
  · replace hf := if_t c1 hf
    refine k_sub (lv' := [(0, .int p0), (1, .int p1), (2, .int v2), (3, .int v3)]) [0, 1, 2, 3] rfl ?_
    exact lp_o hf K
  · replace hf := if_f c1 hf
    refine k_iload_n (pc' := 10) h dX6_power_9 rfl rfl 2 rfl ?_
    refine k_iload_n (pc' := 11) h dX6_power_10 rfl rfl 0 rfl ?_
    refine k_imul (pc' := 12) h dX6_power_11 rfl ?_
    obtain ⟨y2, hy2, hf⟩ := lw_s hf
    refine k_eqi hy2 ?_
    refine k_istore_n (lv' := [(0, .int p0), (1, .int p1), (2, .int y2), (3, .int v3)]) (pc' := 13) h dX6_power_12 rfl rfl (Nat.le_of_ble_eq_true rfl) [1, 2, 0, 3] rfl ?_
    refine k_iinc (lv' := [(0, .int p0), (1, .int p1), (2, .int y2), (3, .int (v3 + (1 : Int32)))]) (pc' := 16) h dX6_power_13 rfl 3 rfl (congrArg (fun z => v3 + z) ci_1) (Nat.le_of_ble_eq_true rfl) [1, 2, 3, 0] rfl ?_
    refine k_goto (tgt := 4) h dX6_power_16 rfl ?_
    refine k_sub (lv' := [(0, .int p0), (1, .int p1), (2, .int y2), (3, .int (v3 + (1 : Int32)))]) [0, 1, 2, 3] rfl ?_
    exact lp_o hf K
noncomputable def f_X6_power (x0 : Int32) (x1 : Int32) (st : St) : Option (Int32 × St) :=
  ((iter (fun v : Int32 × Int32 × St => l_X6_power_4 x0 x1 v.1 v.2.1 v.2.2) fuel ((1 : Int32), (0 : Int32), st)).bind (fun q3 => (some (q3.1, q3.2.2))))
set_option maxHeartbeats 4000000 in
theorem c_X6_power {G : GG} (l : Launch) (x0 : Int32) (x1 : Int32) (st : St)  (rr : Int32) (st' : St) (hf : f_X6_power x0 x1 st = some (rr, st')) : MM l yX6_power cX6_power 4 (some .int) 0 (oM G) [.int x0, .int x1] st (some (.int rr)) st' := by
  refine mk_MM (by decide +kernel) (Nat.le_of_ble_eq_true rfl) (fun X h r => ?_)
  refine k_sub (lv' := [(0, .int x0), (1, .int x1)]) [0, 1] rfl ?_
  unfold f_X6_power at hf
  refine k_iconst (pc' := 1) h dX6_power_0 rfl ci_1 ?_
  refine k_istore_n (lv' := [(0, .int x0), (1, .int x1), (2, .int (1 : Int32))]) (pc' := 2) h dX6_power_1 rfl rfl (Nat.le_of_ble_eq_true rfl) [1, 2, 0] rfl ?_
  refine k_iconst (pc' := 3) h dX6_power_2 rfl ci_0 ?_
  refine k_istore_n (lv' := [(0, .int x0), (1, .int x1), (2, .int (1 : Int32)), (3, .int (0 : Int32))]) (pc' := 4) h dX6_power_3 rfl rfl (Nat.le_of_ble_eq_true rfl) [1, 2, 3, 0] rfl ?_
  obtain ⟨q3, hq3, hf⟩ := bd_s hf
  refine w_X6_power_4 h x0 x1  fuel (1 : Int32) (0 : Int32) st q3 hq3 ?_
  refine k_iload_n (pc' := 20) h dX6_power_19 rfl rfl 2 rfl ?_
  exact k_iret h r dX6_power_20 (lf_i hf)
noncomputable def l_X6_odds_25 (p1 : Int32) (v2 : Int32) (v3 : Int32) (st : St) : Option ((Int32 × Int32 × St) ⊕ (Int32 × Int32 × St)) :=
  (if (6 : Int32) ≤ v3 then (some (.inr (v2, v3, st))) else ((f_X6_everybody  st).bind (fun q5 => ((f_X6_wanting q5.1 v3 q5.2).bind (fun q6 => ((f_X6_comesOf q6.1 q6.2).bind (fun q7 => ((f_X6_power q7.1 p1 q7.2).bind (fun q8 => (lw (v2 + q8.1) (fun y9 => (some (.inl (y9, v3 + (1 : Int32), q8.2))))))))))))))
set_option maxHeartbeats 4000000 in
theorem w_X6_odds_25 {G : GG} {X : Cx} (h : Ok X (oM G) cX6_odds RX6 4 (RM 4))  (p1 : Int32)  (n : Nat) (v2 : Int32) (v3 : Int32) (st : St) (q : Int32 × Int32 × St) (hq : iter (fun v : Int32 × Int32 × St => l_X6_odds_25 p1 v.1 v.2.1 v.2.2) n (v2, v3, st) = some q) (kx : Wk X (oM G) 4 q.2.2 57 [(0, .ref (al (oM G) 0)), (1, .int p1), (2, .int q.1), (3, .int q.2.1)] []) : Wk X (oM G) 4 st 25 [(0, .ref (al (oM G) 0)), (1, .int p1), (2, .int v2), (3, .int v3)] [] := by
  refine iter_rule (hd := (fun v : Int32 × Int32 × St => Wk X (oM G) 4 v.2.2 25 [(0, .ref (al (oM G) 0)), (1, .int p1), (2, .int v.1), (3, .int v.2.1)] [])) (ex := (fun v : Int32 × Int32 × St => Wk X (oM G) 4 v.2.2 57 [(0, .ref (al (oM G) 0)), (1, .int p1), (2, .int v.1), (3, .int v.2.1)] [])) ?_ n (v2, v3, st) q hq kx
  rintro ⟨v2, v3, st⟩ oo hbv K
  show Wk X (oM G) 4 st 25 [(0, .ref (al (oM G) 0)), (1, .int p1), (2, .int v2), (3, .int v3)] []
  have hf : l_X6_odds_25 p1 v2 v3 st = some oo := hbv
  unfold l_X6_odds_25 at hf
  refine k_iload_n (pc' := 26) h dX6_odds_25 rfl rfl 3 rfl ?_
  refine k_bipush (pc' := 28) h dX6_odds_26 rfl cb_6 ?_
  refine k_icmp_ge (tgt := 57) (pc' := 31) h dX6_odds_28 rfl rfl (fun c4 => ?_) (fun c4 => ?_)
  · replace hf := if_t c4 hf
    refine k_sub (lv' := [(0, .ref (al (oM G) 0)), (1, .int p1), (2, .int v2), (3, .int v3)]) [0, 1, 2, 3] rfl ?_
    exact lp_o hf K
  · replace hf := if_f c4 hf
    refine k_iload_n (pc' := 32) h dX6_odds_31 rfl rfl 2 rfl ?_
    refine k_aload_n (pc' := 33) h dX6_odds_32 rfl rfl 0 rfl ?_
    refine k_aload_n (pc' := 34) h dX6_odds_33 rfl rfl 0 rfl ?_
    refine k_aload_n (pc' := 35) h dX6_odds_34 rfl rfl 0 rfl ?_
    obtain ⟨q5, hq5, hf⟩ := bd_s hf
    refine k_callV (As := []) (rest := [.ref (al (oM G) 0), .ref (al (oM G) 0), .int v2]) (rv := some (.int q5.1)) (st' := q5.2) (stk' := [.int q5.1, .ref (al (oM G) 0), .ref (al (oM G) 0), .int v2]) (pc' := 38) h dX6_odds_35 rfl ml_X6_260 wc_X6_everybody wi_X6_everybody ⟨Nat.le_of_ble_eq_true rfl, Nat.le_of_ble_eq_true rfl⟩ bM_mo rfl rfl rfl rfl (Nat.le_of_ble_eq_true rfl) (fun l => c_X6_everybody l  st  _ _ hq5) rfl ?_
    refine k_iload_n (pc' := 39) h dX6_odds_38 rfl rfl 3 rfl ?_
    obtain ⟨q6, hq6, hf⟩ := bd_s hf
    refine k_callV (As := [.int q5.1, .int v3]) (rest := [.ref (al (oM G) 0), .int v2]) (rv := some (.int q6.1)) (st' := q6.2) (stk' := [.int q6.1, .ref (al (oM G) 0), .int v2]) (pc' := 42) h dX6_odds_39 rfl ml_X6_205 wc_X6_wanting wi_X6_wanting ⟨Nat.le_of_ble_eq_true rfl, Nat.le_of_ble_eq_true rfl⟩ bM_mo rfl rfl rfl rfl (Nat.le_of_ble_eq_true rfl) (fun l => c_X6_wanting l q5.1 v3 q5.2  _ _ hq6) rfl ?_
    obtain ⟨q7, hq7, hf⟩ := bd_s hf
    refine k_callV (As := [.int q6.1]) (rest := [.int v2]) (rv := some (.int q7.1)) (st' := q7.2) (stk' := [.int q7.1, .int v2]) (pc' := 45) h dX6_odds_42 rfl ml_X6_208 wc_X6_comesOf wi_X6_comesOf ⟨Nat.le_of_ble_eq_true rfl, Nat.le_of_ble_eq_true rfl⟩ bM_mo rfl rfl rfl rfl (Nat.le_of_ble_eq_true rfl) (fun l => c_X6_comesOf l q6.1 q6.2  _ _ hq7) rfl ?_
    refine k_iload_n (pc' := 46) h dX6_odds_45 rfl rfl 1 rfl ?_
    obtain ⟨q8, hq8, hf⟩ := bd_s hf
    refine k_callS (As := [.int q7.1, .int p1]) (rest := [.int v2]) (rv := some (.int q8.1)) (st' := q8.2) (stk' := [.int q8.1, .int v2]) (pc' := 49) h dX6_odds_46 rfl ml_X6_264 wc_X6_power ws_X6_power ⟨Nat.le_of_ble_eq_true rfl, Nat.le_of_ble_eq_true rfl⟩ rfl rfl (Nat.le_of_ble_eq_true rfl) (fun l => c_X6_power l q7.1 p1 q7.2  _ _ hq8) rfl ?_
    refine k_iadd (pc' := 50) h dX6_odds_49 rfl ?_
    obtain ⟨y9, hy9, hf⟩ := lw_s hf
    refine k_eqi hy9 ?_
    refine k_istore_n (lv' := [(0, .ref (al (oM G) 0)), (1, .int p1), (2, .int y9), (3, .int v3)]) (pc' := 51) h dX6_odds_50 rfl rfl (Nat.le_of_ble_eq_true rfl) [1, 2, 0, 3] rfl ?_
    refine k_iinc (lv' := [(0, .ref (al (oM G) 0)), (1, .int p1), (2, .int y9), (3, .int (v3 + (1 : Int32)))]) (pc' := 54) h dX6_odds_51 rfl 3 rfl (congrArg (fun z => v3 + z) ci_1) (Nat.le_of_ble_eq_true rfl) [1, 2, 3, 0] rfl ?_
    refine k_goto (tgt := 25) h dX6_odds_54 rfl ?_
    refine k_sub (lv' := [(0, .ref (al (oM G) 0)), (1, .int p1), (2, .int y9), (3, .int (v3 + (1 : Int32)))]) [0, 1, 2, 3] rfl ?_
    exact lp_o hf K
noncomputable def f_X6_odds (x0 : Int32) (st : St) : Option (Int32 × St) :=
  ((f_X6_in x0 (1 : Int32) (3 : Int32) st).bind (fun q1 => (if q1.1 = 0 then (some ((-1 : Int32), q1.2)) else (if (q1.2.1 0 10) = 0 then (some ((-4 : Int32), q1.2)) else ((iter (fun v : Int32 × Int32 × St => l_X6_odds_25 x0 v.1 v.2.1 v.2.2) fuel ((0 : Int32), (0 : Int32), q1.2)).bind (fun q10 => ((f_X6_everybody  q10.2.2).bind (fun q11 => ((f_X6_comesOf q11.1 q11.2).bind (fun q12 => ((f_X6_power q12.1 x0 q12.2).bind (fun q13 => ((f_X6_fraction q10.1 q13.1 q13.2).bind (fun q14 => (some (q14.1, q14.2))))))))))))))))
set_option maxHeartbeats 4000000 in
theorem c_X6_odds {G : GG} (l : Launch) (x0 : Int32) (st : St)  (rr : Int32) (st' : St) (hf : f_X6_odds x0 st = some (rr, st')) : MM l yX6_odds cX6_odds 4 (some .int) 4 (oM G) [.ref (al (oM G) 0), .int x0] st (some (.int rr)) st' := by
  refine mk_MM (by decide +kernel) (Nat.le_of_ble_eq_true rfl) (fun X h r => ?_)
  refine k_sub (lv' := [(0, .ref (al (oM G) 0)), (1, .int x0)]) [0, 1] rfl ?_
  unfold f_X6_odds at hf
  refine k_iload_n (pc' := 1) h dX6_odds_0 rfl rfl 1 rfl ?_
  refine k_iconst (pc' := 2) h dX6_odds_1 rfl ci_1 ?_
  refine k_iconst (pc' := 3) h dX6_odds_2 rfl ci_3 ?_
  obtain ⟨q1, hq1, hf⟩ := bd_s hf
  refine k_callS (As := [.int x0, .int (1 : Int32), .int (3 : Int32)]) (rest := []) (rv := some (.int q1.1)) (st' := q1.2) (stk' := [.int q1.1]) (pc' := 6) h dX6_odds_3 rfl ml_X6_83 wc_X6_in ws_X6_in ⟨Nat.le_of_ble_eq_true rfl, Nat.le_of_ble_eq_true rfl⟩ rfl rfl (Nat.le_of_ble_eq_true rfl) (fun l => c_X6_in l x0 (1 : Int32) (3 : Int32) st  _ _ hq1) rfl ?_
  refine k_if_ne (tgt := 11) (pc' := 9) h dX6_odds_6 rfl rfl (fun c2 => ?_) (fun c2 => ?_)
  · replace hf := if_f c2 hf
    refine k_aload_n (pc' := 12) h dX6_odds_11 rfl rfl 0 rfl ?_
    refine k_get (v := .int (q1.2.1 0 10)) (pc' := 15) h dX6_odds_12 rfl bM_mo fl_X6_135 rfl ?_
    refine k_if_ne (tgt := 21) (pc' := 18) h dX6_odds_15 rfl rfl (fun c3 => ?_) (fun c3 => ?_)
    · replace hf := if_f c3 hf
      refine k_iconst (pc' := 22) h dX6_odds_21 rfl ci_0 ?_
      refine k_istore_n (lv' := [(0, .ref (al (oM G) 0)), (1, .int x0), (2, .int (0 : Int32))]) (pc' := 23) h dX6_odds_22 rfl rfl (Nat.le_of_ble_eq_true rfl) [1, 2, 0] rfl ?_
      refine k_iconst (pc' := 24) h dX6_odds_23 rfl ci_0 ?_
      refine k_istore_n (lv' := [(0, .ref (al (oM G) 0)), (1, .int x0), (2, .int (0 : Int32)), (3, .int (0 : Int32))]) (pc' := 25) h dX6_odds_24 rfl rfl (Nat.le_of_ble_eq_true rfl) [1, 2, 3, 0] rfl ?_
      obtain ⟨q10, hq10, hf⟩ := bd_s hf
      refine w_X6_odds_25 h x0  fuel (0 : Int32) (0 : Int32) q1.2 q10 hq10 ?_
      refine k_aload_n (pc' := 58) h dX6_odds_57 rfl rfl 0 rfl ?_
      refine k_iload_n (pc' := 59) h dX6_odds_58 rfl rfl 2 rfl ?_
      refine k_aload_n (pc' := 60) h dX6_odds_59 rfl rfl 0 rfl ?_
      refine k_aload_n (pc' := 61) h dX6_odds_60 rfl rfl 0 rfl ?_
      obtain ⟨q11, hq11, hf⟩ := bd_s hf
      refine k_callV (As := []) (rest := [.ref (al (oM G) 0), .int q10.1, .ref (al (oM G) 0)]) (rv := some (.int q11.1)) (st' := q11.2) (stk' := [.int q11.1, .ref (al (oM G) 0), .int q10.1, .ref (al (oM G) 0)]) (pc' := 64) h dX6_odds_61 rfl ml_X6_260 wc_X6_everybody wi_X6_everybody ⟨Nat.le_of_ble_eq_true rfl, Nat.le_of_ble_eq_true rfl⟩ bM_mo rfl rfl rfl rfl (Nat.le_of_ble_eq_true rfl) (fun l => c_X6_everybody l  q10.2.2  _ _ hq11) rfl ?_
      obtain ⟨q12, hq12, hf⟩ := bd_s hf
      refine k_callV (As := [.int q11.1]) (rest := [.int q10.1, .ref (al (oM G) 0)]) (rv := some (.int q12.1)) (st' := q12.2) (stk' := [.int q12.1, .int q10.1, .ref (al (oM G) 0)]) (pc' := 67) h dX6_odds_64 rfl ml_X6_208 wc_X6_comesOf wi_X6_comesOf ⟨Nat.le_of_ble_eq_true rfl, Nat.le_of_ble_eq_true rfl⟩ bM_mo rfl rfl rfl rfl (Nat.le_of_ble_eq_true rfl) (fun l => c_X6_comesOf l q11.1 q11.2  _ _ hq12) rfl ?_
      refine k_iload_n (pc' := 68) h dX6_odds_67 rfl rfl 1 rfl ?_
      obtain ⟨q13, hq13, hf⟩ := bd_s hf
      refine k_callS (As := [.int q12.1, .int x0]) (rest := [.int q10.1, .ref (al (oM G) 0)]) (rv := some (.int q13.1)) (st' := q13.2) (stk' := [.int q13.1, .int q10.1, .ref (al (oM G) 0)]) (pc' := 71) h dX6_odds_68 rfl ml_X6_264 wc_X6_power ws_X6_power ⟨Nat.le_of_ble_eq_true rfl, Nat.le_of_ble_eq_true rfl⟩ rfl rfl (Nat.le_of_ble_eq_true rfl) (fun l => c_X6_power l q12.1 x0 q12.2  _ _ hq13) rfl ?_
      obtain ⟨q14, hq14, hf⟩ := bd_s hf
      refine k_callV (As := [.int q10.1, .int q13.1]) (rest := []) (rv := some (.int q14.1)) (st' := q14.2) (stk' := [.int q14.1]) (pc' := 74) h dX6_odds_71 rfl ml_X6_211 wc_X6_fraction wi_X6_fraction ⟨Nat.le_of_ble_eq_true rfl, Nat.le_of_ble_eq_true rfl⟩ bM_mo rfl rfl rfl rfl (Nat.le_of_ble_eq_true rfl) (fun l => c_X6_fraction l q10.1 q13.1 q13.2  _ _ hq14) rfl ?_
      exact k_iret h r dX6_odds_74 (lf_i hf)
    · replace hf := if_t c3 hf
      refine k_bipush (pc' := 20) h dX6_odds_18 rfl cb_m4 ?_
      exact k_iret h r dX6_odds_20 (lf_i hf)
  · replace hf := if_t c2 hf
    refine k_iconst (pc' := 10) h dX6_odds_9 rfl ci_m1 ?_
    exact k_iret h r dX6_odds_10 (lf_i hf)
noncomputable def l_X6_lots_74 (p1 : Int32) (p2 : Int32) (v3 : Int64) (v5 : Int32) (v6 : Int32) (st : St) : Option ((Int64 × Int32 × Int32 × St) ⊕ (Int64 × Int32 × Int32 × St)) :=
  (if p1 ≤ v6 then (some (.inr (v3, v5, v6, st))) else (gd (nzl (2147483647 : Int64)) (lw (((48271 : Int64) * v3) - ((48271 : Int64) * v3) / (2147483647 : Int64) * (2147483647 : Int64)) (fun y11 => (gd (nzl ((st.1 0 10).toInt64)) (lw ((y11 - y11 / ((st.1 0 10).toInt64) * ((st.1 0 10).toInt64)).toInt32) (fun y13 => (gd (inb y13 6) (gd (inb y13 6) ((f_X6_looksSo (st.1 8 y13.toNatClampNeg) (st.1 9 y13.toNatClampNeg) st).bind (fun q16 => ((f_X6_quickestOf q16.1 q16.2).bind (fun q17 => ((f_X6_serves y13 q17.1 q17.2).bind (fun q18 => (lw (v5 + q18.1) (fun y19 => (some (.inl (y11, y19, v6 + (1 : Int32), q18.2))))))))))))))))))))
set_option maxHeartbeats 4000000 in
theorem w_X6_lots_74 {G : GG} {X : Cx} (h : Ok X (oM G) cX6_lots RX6 8 (RM 6))  (p1 : Int32) (p2 : Int32)  (n : Nat) (v3 : Int64) (v5 : Int32) (v6 : Int32) (st : St) (q : Int64 × Int32 × Int32 × St) (hq : iter (fun v : Int64 × Int32 × Int32 × St => l_X6_lots_74 p1 p2 v.1 v.2.1 v.2.2.1 v.2.2.2) n (v3, v5, v6, st) = some q) (kx : Wk X (oM G) 8 q.2.2.2 139 [(0, .ref (al (oM G) 0)), (1, .int p1), (2, .int p2), (3, .long q.1), (5, .int q.2.1), (6, .int q.2.2.1)] []) : Wk X (oM G) 8 st 74 [(0, .ref (al (oM G) 0)), (1, .int p1), (2, .int p2), (3, .long v3), (5, .int v5), (6, .int v6)] [] := by
  refine iter_rule (hd := (fun v : Int64 × Int32 × Int32 × St => Wk X (oM G) 8 v.2.2.2 74 [(0, .ref (al (oM G) 0)), (1, .int p1), (2, .int p2), (3, .long v.1), (5, .int v.2.1), (6, .int v.2.2.1)] [])) (ex := (fun v : Int64 × Int32 × Int32 × St => Wk X (oM G) 8 v.2.2.2 139 [(0, .ref (al (oM G) 0)), (1, .int p1), (2, .int p2), (3, .long v.1), (5, .int v.2.1), (6, .int v.2.2.1)] [])) ?_ n (v3, v5, v6, st) q hq kx
  rintro ⟨v3, v5, v6, st⟩ oo hbv K
  show Wk X (oM G) 8 st 74 [(0, .ref (al (oM G) 0)), (1, .int p1), (2, .int p2), (3, .long v3), (5, .int v5), (6, .int v6)] []
  have hf : l_X6_lots_74 p1 p2 v3 v5 v6 st = some oo := hbv
  unfold l_X6_lots_74 at hf
  refine k_iload (pc' := 76) h dX6_lots_74 rfl 5 rfl ?_
  refine k_iload_n (pc' := 77) h dX6_lots_76 rfl rfl 1 rfl ?_
  refine k_icmp_ge (tgt := 139) (pc' := 80) h dX6_lots_77 rfl rfl (fun c9 => ?_) (fun c9 => ?_)
  · replace hf := if_t c9 hf
    refine k_sub (lv' := [(0, .ref (al (oM G) 0)), (1, .int p1), (2, .int p2), (3, .long v3), (5, .int v5), (6, .int v6)]) [0, 1, 2, 3, 4, 5] rfl ?_
    exact lp_o hf K
  · replace hf := if_f c9 hf
    refine k_ldc2 (pc' := 83) h dX6_lots_80 rfl cst_X6_268 ?_
    refine k_lload_n (pc' := 84) h dX6_lots_83 rfl rfl 3 rfl ?_
    refine k_lmul (pc' := 85) h dX6_lots_84 rfl ?_
    refine k_ldc2 (pc' := 88) h dX6_lots_85 rfl cst_X6_270 ?_
    have g10 := gd_1 hf
    replace hf := gd_2 hf
    refine k_lrem (pc' := 89) h dX6_lots_88 rfl (nzl_n g10) ?_
    obtain ⟨y11, hy11, hf⟩ := lw_s hf
    refine k_eql hy11 ?_
    refine k_lstore_n (lv' := [(0, .ref (al (oM G) 0)), (1, .int p1), (2, .int p2), (3, .long y11), (5, .int v5), (6, .int v6)]) (pc' := 90) h dX6_lots_89 rfl rfl (Nat.le_of_ble_eq_true rfl) [1, 2, 3, 0, 4, 5] rfl ?_
    refine k_lload_n (pc' := 91) h dX6_lots_90 rfl rfl 3 rfl ?_
    refine k_aload_n (pc' := 92) h dX6_lots_91 rfl rfl 0 rfl ?_
    refine k_get (v := .int (st.1 0 10)) (pc' := 95) h dX6_lots_92 rfl bM_mo fl_X6_135 rfl ?_
    refine k_i2l (pc' := 96) h dX6_lots_95 rfl ?_
    have g12 := gd_1 hf
    replace hf := gd_2 hf
    refine k_lrem (pc' := 97) h dX6_lots_96 rfl (nzl_n g12) ?_
    refine k_l2i (pc' := 98) h dX6_lots_97 rfl ?_
    obtain ⟨y13, hy13, hf⟩ := lw_s hf
    refine k_eqi hy13 ?_
    refine k_istore (lv' := [(0, .ref (al (oM G) 0)), (1, .int p1), (2, .int p2), (3, .long y11), (5, .int v5), (6, .int v6), (7, .int y13)]) (pc' := 100) h dX6_lots_98 rfl (Nat.le_of_ble_eq_true rfl) [1, 2, 3, 4, 5, 6, 0] rfl ?_
    refine k_iload (pc' := 102) h dX6_lots_100 rfl 4 rfl ?_
    refine k_aload_n (pc' := 103) h dX6_lots_102 rfl rfl 0 rfl ?_
    refine k_iload (pc' := 105) h dX6_lots_103 rfl 6 rfl ?_
    refine k_aload_n (pc' := 106) h dX6_lots_105 rfl rfl 0 rfl ?_
    refine k_aload_n (pc' := 107) h dX6_lots_106 rfl rfl 0 rfl ?_
    refine k_aload_n (pc' := 108) h dX6_lots_107 rfl rfl 0 rfl ?_
    refine k_get (v := .ref (al (oM G) 8)) (pc' := 111) h dX6_lots_108 rfl bM_mo fl_X6_36 rfl ?_
    refine k_iload (pc' := 113) h dX6_lots_111 rfl 6 rfl ?_
    have g14 := gd_1 hf
    replace hf := gd_2 hf
    refine k_iald (pc' := 114) h dX6_lots_113 rfl aM_8 g14 ?_
    refine k_aload_n (pc' := 115) h dX6_lots_114 rfl rfl 0 rfl ?_
    refine k_get (v := .ref (al (oM G) 9)) (pc' := 118) h dX6_lots_115 rfl bM_mo fl_X6_39 rfl ?_
    refine k_iload (pc' := 120) h dX6_lots_118 rfl 6 rfl ?_
    have g15 := gd_1 hf
    replace hf := gd_2 hf
    refine k_iald (pc' := 121) h dX6_lots_120 rfl aM_9 g15 ?_
    obtain ⟨q16, hq16, hf⟩ := bd_s hf
    refine k_callV (As := [.int (st.1 8 y13.toNatClampNeg), .int (st.1 9 y13.toNatClampNeg)]) (rest := [.ref (al (oM G) 0), .int y13, .ref (al (oM G) 0), .int v5]) (rv := some (.int q16.1)) (st' := q16.2) (stk' := [.int q16.1, .ref (al (oM G) 0), .int y13, .ref (al (oM G) 0), .int v5]) (pc' := 124) h dX6_lots_121 rfl ml_X6_199 wc_X6_looksSo wi_X6_looksSo ⟨Nat.le_of_ble_eq_true rfl, Nat.le_of_ble_eq_true rfl⟩ bM_mo rfl rfl rfl rfl (Nat.le_of_ble_eq_true rfl) (fun l => c_X6_looksSo l (st.1 8 y13.toNatClampNeg) (st.1 9 y13.toNatClampNeg) st  _ _ hq16) rfl ?_
    obtain ⟨q17, hq17, hf⟩ := bd_s hf
    refine k_callV (As := [.int q16.1]) (rest := [.int y13, .ref (al (oM G) 0), .int v5]) (rv := some (.int q17.1)) (st' := q17.2) (stk' := [.int q17.1, .int y13, .ref (al (oM G) 0), .int v5]) (pc' := 127) h dX6_lots_124 rfl ml_X6_217 wc_X6_quickestOf wi_X6_quickestOf ⟨Nat.le_of_ble_eq_true rfl, Nat.le_of_ble_eq_true rfl⟩ bM_mo rfl rfl rfl rfl (Nat.le_of_ble_eq_true rfl) (fun l => c_X6_quickestOf l q16.1 q16.2  _ _ hq17) rfl ?_
    obtain ⟨q18, hq18, hf⟩ := bd_s hf
    refine k_callV (As := [.int y13, .int q17.1]) (rest := [.int v5]) (rv := some (.int q18.1)) (st' := q18.2) (stk' := [.int q18.1, .int v5]) (pc' := 130) h dX6_lots_127 rfl ml_X6_193 wc_X6_serves wi_X6_serves ⟨Nat.le_of_ble_eq_true rfl, Nat.le_of_ble_eq_true rfl⟩ bM_mo rfl rfl rfl rfl (Nat.le_of_ble_eq_true rfl) (fun l => c_X6_serves l y13 q17.1 q17.2  _ _ hq18) rfl ?_
    refine k_iadd (pc' := 131) h dX6_lots_130 rfl ?_
    obtain ⟨y19, hy19, hf⟩ := lw_s hf
    refine k_eqi hy19 ?_
    refine k_istore (lv' := [(0, .ref (al (oM G) 0)), (1, .int p1), (2, .int p2), (3, .long y11), (5, .int y19), (6, .int v6), (7, .int y13)]) (pc' := 133) h dX6_lots_131 rfl (Nat.le_of_ble_eq_true rfl) [1, 2, 3, 4, 0, 5, 6] rfl ?_
    refine k_iinc (lv' := [(0, .ref (al (oM G) 0)), (1, .int p1), (2, .int p2), (3, .long y11), (5, .int y19), (6, .int (v6 + (1 : Int32))), (7, .int y13)]) (pc' := 136) h dX6_lots_133 rfl 5 rfl (congrArg (fun z => v6 + z) ci_1) (Nat.le_of_ble_eq_true rfl) [1, 2, 3, 4, 5, 0, 6] rfl ?_
    refine k_goto (tgt := 74) h dX6_lots_136 rfl ?_
    refine k_sub (lv' := [(0, .ref (al (oM G) 0)), (1, .int p1), (2, .int p2), (3, .long y11), (5, .int y19), (6, .int (v6 + (1 : Int32)))]) [0, 1, 2, 3, 4, 5] rfl ?_
    exact lp_o hf K
noncomputable def f_X6_lots (x0 : Int32) (x1 : Int32) (st : St) : Option (Int32 × St) :=
  ((f_X6_in x0 (1 : Int32) (20 : Int32) st).bind (fun q1 => (if q1.1 = 0 then (some ((-1 : Int32), q1.2)) else ((f_X6_in x1 (1 : Int32) (2147483646 : Int32) q1.2).bind (fun q3 => (if q3.1 = 0 then (some ((-1 : Int32), q3.2)) else (if (q3.2.1 0 10) = 0 then (some ((-4 : Int32), q3.2)) else (gd (inb (13 : Int32) 14) (if ((q3.2.1 14 (13 : Int32).toNatClampNeg) + ((70 : Int32) * x0)) ≤ (9999 : Int32) then (if ((q3.2.1 0 21) + x0) ≤ (60 : Int32) then ((iter (fun v : Int64 × Int32 × Int32 × St => l_X6_lots_74 x0 x1 v.1 v.2.1 v.2.2.1 v.2.2.2) fuel (x1.toInt64, (0 : Int32), (0 : Int32), q3.2)).bind (fun q20 => (some (q20.2.1, q20.2.2.2)))) else (some ((-2 : Int32), q3.2))) else (some ((-4 : Int32), q3.2)))))))))))
set_option maxHeartbeats 4000000 in
theorem c_X6_lots {G : GG} (l : Launch) (x0 : Int32) (x1 : Int32) (st : St)  (rr : Int32) (st' : St) (hf : f_X6_lots x0 x1 st = some (rr, st')) : MM l yX6_lots cX6_lots 8 (some .int) 6 (oM G) [.ref (al (oM G) 0), .int x0, .int x1] st (some (.int rr)) st' := by
  refine mk_MM (by decide +kernel) (Nat.le_of_ble_eq_true rfl) (fun X h r => ?_)
  refine k_sub (lv' := [(0, .ref (al (oM G) 0)), (1, .int x0), (2, .int x1)]) [0, 1, 2] rfl ?_
  unfold f_X6_lots at hf
  refine k_iload_n (pc' := 1) h dX6_lots_0 rfl rfl 1 rfl ?_
  refine k_iconst (pc' := 2) h dX6_lots_1 rfl ci_1 ?_
  refine k_bipush (pc' := 4) h dX6_lots_2 rfl cb_20 ?_
  obtain ⟨q1, hq1, hf⟩ := bd_s hf
  refine k_callS (As := [.int x0, .int (1 : Int32), .int (20 : Int32)]) (rest := []) (rv := some (.int q1.1)) (st' := q1.2) (stk' := [.int q1.1]) (pc' := 7) h dX6_lots_4 rfl ml_X6_83 wc_X6_in ws_X6_in ⟨Nat.le_of_ble_eq_true rfl, Nat.le_of_ble_eq_true rfl⟩ rfl rfl (Nat.le_of_ble_eq_true rfl) (fun l => c_X6_in l x0 (1 : Int32) (20 : Int32) st  _ _ hq1) rfl ?_
  refine k_if_eq (tgt := 21) (pc' := 10) h dX6_lots_7 rfl rfl (fun c2 => ?_) (fun c2 => ?_)
  · replace hf := if_t c2 hf
    refine k_iconst (pc' := 22) h dX6_lots_21 rfl ci_m1 ?_
    exact k_iret h r dX6_lots_22 (lf_i hf)
  · replace hf := if_f c2 hf
    refine k_iload_n (pc' := 11) h dX6_lots_10 rfl rfl 2 rfl ?_
    refine k_iconst (pc' := 12) h dX6_lots_11 rfl ci_1 ?_
    refine k_ldcw (pc' := 15) h dX6_lots_12 rfl cst_X6_267 ?_
    obtain ⟨q3, hq3, hf⟩ := bd_s hf
    refine k_callS (As := [.int x1, .int (1 : Int32), .int (2147483646 : Int32)]) (rest := []) (rv := some (.int q3.1)) (st' := q3.2) (stk' := [.int q3.1]) (pc' := 18) h dX6_lots_15 rfl ml_X6_83 wc_X6_in ws_X6_in ⟨Nat.le_of_ble_eq_true rfl, Nat.le_of_ble_eq_true rfl⟩ rfl rfl (Nat.le_of_ble_eq_true rfl) (fun l => c_X6_in l x1 (1 : Int32) (2147483646 : Int32) q1.2  _ _ hq3) rfl ?_
    refine k_if_ne (tgt := 23) (pc' := 21) h dX6_lots_18 rfl rfl (fun c4 => ?_) (fun c4 => ?_)
    · replace hf := if_f c4 hf
      refine k_aload_n (pc' := 24) h dX6_lots_23 rfl rfl 0 rfl ?_
      refine k_get (v := .int (q3.2.1 0 10)) (pc' := 27) h dX6_lots_24 rfl bM_mo fl_X6_135 rfl ?_
      refine k_if_eq (tgt := 48) (pc' := 30) h dX6_lots_27 rfl rfl (fun c5 => ?_) (fun c5 => ?_)
      · replace hf := if_t c5 hf
        refine k_bipush (pc' := 50) h dX6_lots_48 rfl cb_m4 ?_
        exact k_iret h r dX6_lots_50 (lf_i hf)
      · replace hf := if_f c5 hf
        refine k_aload_n (pc' := 31) h dX6_lots_30 rfl rfl 0 rfl ?_
        refine k_get (v := .ref (al (oM G) 14)) (pc' := 34) h dX6_lots_31 rfl bM_mo fl_X6_54 rfl ?_
        refine k_bipush (pc' := 36) h dX6_lots_34 rfl cb_13 ?_
        have g6 := gd_1 hf
        replace hf := gd_2 hf
        refine k_iald (pc' := 37) h dX6_lots_36 rfl aM_14 g6 ?_
        refine k_bipush (pc' := 39) h dX6_lots_37 rfl cb_70 ?_
        refine k_iload_n (pc' := 40) h dX6_lots_39 rfl rfl 1 rfl ?_
        refine k_imul (pc' := 41) h dX6_lots_40 rfl ?_
        refine k_iadd (pc' := 42) h dX6_lots_41 rfl ?_
        refine k_sipush (pc' := 45) h dX6_lots_42 rfl cs_9999 ?_
        refine k_icmp_le (tgt := 51) (pc' := 48) h dX6_lots_45 rfl rfl (fun c7 => ?_) (fun c7 => ?_)
        · replace hf := if_t c7 hf
          refine k_aload_n (pc' := 52) h dX6_lots_51 rfl rfl 0 rfl ?_
          refine k_get (v := .int (q3.2.1 0 21)) (pc' := 55) h dX6_lots_52 rfl bM_mo fl_X6_138 rfl ?_
          refine k_iload_n (pc' := 56) h dX6_lots_55 rfl rfl 1 rfl ?_
          refine k_iadd (pc' := 57) h dX6_lots_56 rfl ?_
          refine k_bipush (pc' := 59) h dX6_lots_57 rfl cb_60 ?_
          refine k_icmp_le (tgt := 65) (pc' := 62) h dX6_lots_59 rfl rfl (fun c8 => ?_) (fun c8 => ?_)
          · replace hf := if_t c8 hf
            refine k_iload_n (pc' := 66) h dX6_lots_65 rfl rfl 2 rfl ?_
            refine k_i2l (pc' := 67) h dX6_lots_66 rfl ?_
            refine k_lstore_n (lv' := [(0, .ref (al (oM G) 0)), (1, .int x0), (2, .int x1), (3, .long x1.toInt64)]) (pc' := 68) h dX6_lots_67 rfl rfl (Nat.le_of_ble_eq_true rfl) [1, 2, 3, 0] rfl ?_
            refine k_iconst (pc' := 69) h dX6_lots_68 rfl ci_0 ?_
            refine k_istore (lv' := [(0, .ref (al (oM G) 0)), (1, .int x0), (2, .int x1), (3, .long x1.toInt64), (5, .int (0 : Int32))]) (pc' := 71) h dX6_lots_69 rfl (Nat.le_of_ble_eq_true rfl) [1, 2, 3, 4, 0] rfl ?_
            refine k_iconst (pc' := 72) h dX6_lots_71 rfl ci_0 ?_
            refine k_istore (lv' := [(0, .ref (al (oM G) 0)), (1, .int x0), (2, .int x1), (3, .long x1.toInt64), (5, .int (0 : Int32)), (6, .int (0 : Int32))]) (pc' := 74) h dX6_lots_72 rfl (Nat.le_of_ble_eq_true rfl) [1, 2, 3, 4, 5, 0] rfl ?_
            obtain ⟨q20, hq20, hf⟩ := bd_s hf
            refine w_X6_lots_74 h x0 x1  fuel x1.toInt64 (0 : Int32) (0 : Int32) q3.2 q20 hq20 ?_
            refine k_iload (pc' := 141) h dX6_lots_139 rfl 4 rfl ?_
            exact k_iret h r dX6_lots_141 (lf_i hf)
          · replace hf := if_f c8 hf
            refine k_bipush (pc' := 64) h dX6_lots_62 rfl cb_m2 ?_
            exact k_iret h r dX6_lots_64 (lf_i hf)
        · replace hf := if_f c7 hf
          refine k_bipush (pc' := 50) h dX6_lots_48 rfl cb_m4 ?_
          exact k_iret h r dX6_lots_50 (lf_i hf)
    · replace hf := if_t c4 hf
      refine k_iconst (pc' := 22) h dX6_lots_21 rfl ci_m1 ?_
      exact k_iret h r dX6_lots_22 (lf_i hf)
noncomputable def l_X6_counted_4 (p1 : Int32) (v2 : Int32) (v3 : Int32) (st : St) : Option ((Int32 × Int32 × St) ⊕ (Int32 × Int32 × St)) :=
  (if (st.1 0 10) ≤ v3 then (some (.inr (v2, v3, st))) else (if p1 = (4 : Int32) then ((f_X6_isKnown v3 st).bind (fun q15 => (if q15.1 = 0 then (if p1 = (6 : Int32) then ((f_X6_isSilent v3 q15.2).bind (fun q23 => (if q23.1 = 0 then (if p1 = (5 : Int32) then (gd (inb ((6 : Int32) + v3) 14) (lw (v2 + (q23.2.1 14 ((6 : Int32) + v3).toNatClampNeg)) (fun y28 => (some (.inl (y28, v3 + (1 : Int32), q23.2)))))) else (lw (v2 + (0 : Int32)) (fun y26 => (some (.inl (y26, v3 + (1 : Int32), q23.2)))))) else (lw (v2 + (1 : Int32)) (fun y29 => (some (.inl (y29, v3 + (1 : Int32), q23.2)))))))) else (if p1 = (5 : Int32) then (gd (inb ((6 : Int32) + v3) 14) (lw (v2 + (q15.2.1 14 ((6 : Int32) + v3).toNatClampNeg)) (fun y22 => (some (.inl (y22, v3 + (1 : Int32), q15.2)))))) else (lw (v2 + (0 : Int32)) (fun y20 => (some (.inl (y20, v3 + (1 : Int32), q15.2))))))) else (lw (v2 + (1 : Int32)) (fun y17 => (some (.inl (y17, v3 + (1 : Int32), q15.2)))))))) else (if p1 = (6 : Int32) then ((f_X6_isSilent v3 st).bind (fun q8 => (if q8.1 = 0 then (if p1 = (5 : Int32) then (gd (inb ((6 : Int32) + v3) 14) (lw (v2 + (q8.2.1 14 ((6 : Int32) + v3).toNatClampNeg)) (fun y13 => (some (.inl (y13, v3 + (1 : Int32), q8.2)))))) else (lw (v2 + (0 : Int32)) (fun y11 => (some (.inl (y11, v3 + (1 : Int32), q8.2)))))) else (lw (v2 + (1 : Int32)) (fun y14 => (some (.inl (y14, v3 + (1 : Int32), q8.2)))))))) else (if p1 = (5 : Int32) then (gd (inb ((6 : Int32) + v3) 14) (lw (v2 + (st.1 14 ((6 : Int32) + v3).toNatClampNeg)) (fun y7 => (some (.inl (y7, v3 + (1 : Int32), st)))))) else (lw (v2 + (0 : Int32)) (fun y5 => (some (.inl (y5, v3 + (1 : Int32), st)))))))))
set_option maxHeartbeats 4000000 in
theorem w_X6_counted_4 {G : GG} {X : Cx} (h : Ok X (oM G) cX6_counted RX6 4 (RM 1))  (p1 : Int32)  (n : Nat) (v2 : Int32) (v3 : Int32) (st : St) (q : Int32 × Int32 × St) (hq : iter (fun v : Int32 × Int32 × St => l_X6_counted_4 p1 v.1 v.2.1 v.2.2) n (v2, v3, st) = some q) (kx : Wk X (oM G) 4 q.2.2 70 [(0, .ref (al (oM G) 0)), (1, .int p1), (2, .int q.1), (3, .int q.2.1)] []) : Wk X (oM G) 4 st 4 [(0, .ref (al (oM G) 0)), (1, .int p1), (2, .int v2), (3, .int v3)] [] := by
  refine iter_rule (hd := (fun v : Int32 × Int32 × St => Wk X (oM G) 4 v.2.2 4 [(0, .ref (al (oM G) 0)), (1, .int p1), (2, .int v.1), (3, .int v.2.1)] [])) (ex := (fun v : Int32 × Int32 × St => Wk X (oM G) 4 v.2.2 70 [(0, .ref (al (oM G) 0)), (1, .int p1), (2, .int v.1), (3, .int v.2.1)] [])) ?_ n (v2, v3, st) q hq kx
  rintro ⟨v2, v3, st⟩ oo hbv K
  show Wk X (oM G) 4 st 4 [(0, .ref (al (oM G) 0)), (1, .int p1), (2, .int v2), (3, .int v3)] []
  have hf : l_X6_counted_4 p1 v2 v3 st = some oo := hbv
  unfold l_X6_counted_4 at hf
  refine k_iload_n (pc' := 5) h dX6_counted_4 rfl rfl 3 rfl ?_
  refine k_aload_n (pc' := 6) h dX6_counted_5 rfl rfl 0 rfl ?_
  refine k_get (v := .int (st.1 0 10)) (pc' := 9) h dX6_counted_6 rfl bM_mo fl_X6_135 rfl ?_
  refine k_icmp_ge (tgt := 70) (pc' := 12) h dX6_counted_9 rfl rfl (fun c1 => ?_) (fun c1 => ?_)
  · replace hf := if_t c1 hf
    refine k_sub (lv' := [(0, .ref (al (oM G) 0)), (1, .int p1), (2, .int v2), (3, .int v3)]) [0, 1, 2, 3] rfl ?_
    exact lp_o hf K
  · replace hf := if_f c1 hf
    refine k_iload_n (pc' := 13) h dX6_counted_12 rfl rfl 2 rfl ?_
    refine k_iload_n (pc' := 14) h dX6_counted_13 rfl rfl 1 rfl ?_
    refine k_iconst (pc' := 15) h dX6_counted_14 rfl ci_4 ?_
    refine k_icmp_ne (tgt := 26) (pc' := 18) h dX6_counted_15 rfl rfl (fun c2 => ?_) (fun c2 => ?_)
    · replace hf := if_f c2 hf
      refine k_iload_n (pc' := 27) h dX6_counted_26 rfl rfl 1 rfl ?_
      refine k_bipush (pc' := 29) h dX6_counted_27 rfl cb_6 ?_
      refine k_icmp_ne (tgt := 44) (pc' := 32) h dX6_counted_29 rfl rfl (fun c3 => ?_) (fun c3 => ?_)
      · replace hf := if_f c3 hf
        refine k_iload_n (pc' := 45) h dX6_counted_44 rfl rfl 1 rfl ?_
        refine k_iconst (pc' := 46) h dX6_counted_45 rfl ci_5 ?_
        refine k_icmp_ne (tgt := 61) (pc' := 49) h dX6_counted_46 rfl rfl (fun c4 => ?_) (fun c4 => ?_)
        · replace hf := if_f c4 hf
          refine k_iconst (pc' := 62) h dX6_counted_61 rfl ci_0 ?_
          refine k_iadd (pc' := 63) h dX6_counted_62 rfl ?_
          obtain ⟨y5, hy5, hf⟩ := lw_s hf
          refine k_eqi hy5 ?_
          refine k_istore_n (lv' := [(0, .ref (al (oM G) 0)), (1, .int p1), (2, .int y5), (3, .int v3)]) (pc' := 64) h dX6_counted_63 rfl rfl (Nat.le_of_ble_eq_true rfl) [1, 2, 0, 3] rfl ?_
          refine k_iinc (lv' := [(0, .ref (al (oM G) 0)), (1, .int p1), (2, .int y5), (3, .int (v3 + (1 : Int32)))]) (pc' := 67) h dX6_counted_64 rfl 3 rfl (congrArg (fun z => v3 + z) ci_1) (Nat.le_of_ble_eq_true rfl) [1, 2, 3, 0] rfl ?_
          refine k_goto (tgt := 4) h dX6_counted_67 rfl ?_
          refine k_sub (lv' := [(0, .ref (al (oM G) 0)), (1, .int p1), (2, .int y5), (3, .int (v3 + (1 : Int32)))]) [0, 1, 2, 3] rfl ?_
          exact lp_o hf K
        · replace hf := if_t c4 hf
          refine k_aload_n (pc' := 50) h dX6_counted_49 rfl rfl 0 rfl ?_
          refine k_get (v := .ref (al (oM G) 14)) (pc' := 53) h dX6_counted_50 rfl bM_mo fl_X6_54 rfl ?_
          refine k_bipush (pc' := 55) h dX6_counted_53 rfl cb_6 ?_
          refine k_iload_n (pc' := 56) h dX6_counted_55 rfl rfl 3 rfl ?_
          refine k_iadd (pc' := 57) h dX6_counted_56 rfl ?_
          have g6 := gd_1 hf
          replace hf := gd_2 hf
          refine k_iald (pc' := 58) h dX6_counted_57 rfl aM_14 g6 ?_
          refine k_goto (tgt := 62) h dX6_counted_58 rfl ?_
          refine k_iadd (pc' := 63) h dX6_counted_62 rfl ?_
          obtain ⟨y7, hy7, hf⟩ := lw_s hf
          refine k_eqi hy7 ?_
          refine k_istore_n (lv' := [(0, .ref (al (oM G) 0)), (1, .int p1), (2, .int y7), (3, .int v3)]) (pc' := 64) h dX6_counted_63 rfl rfl (Nat.le_of_ble_eq_true rfl) [1, 2, 0, 3] rfl ?_
          refine k_iinc (lv' := [(0, .ref (al (oM G) 0)), (1, .int p1), (2, .int y7), (3, .int (v3 + (1 : Int32)))]) (pc' := 67) h dX6_counted_64 rfl 3 rfl (congrArg (fun z => v3 + z) ci_1) (Nat.le_of_ble_eq_true rfl) [1, 2, 3, 0] rfl ?_
          refine k_goto (tgt := 4) h dX6_counted_67 rfl ?_
          refine k_sub (lv' := [(0, .ref (al (oM G) 0)), (1, .int p1), (2, .int y7), (3, .int (v3 + (1 : Int32)))]) [0, 1, 2, 3] rfl ?_
          exact lp_o hf K
      · replace hf := if_t c3 hf
        refine k_aload_n (pc' := 33) h dX6_counted_32 rfl rfl 0 rfl ?_
        refine k_iload_n (pc' := 34) h dX6_counted_33 rfl rfl 3 rfl ?_
        obtain ⟨q8, hq8, hf⟩ := bd_s hf
        refine k_callV (As := [.int v3]) (rest := [.int v2]) (rv := some (.int q8.1)) (st' := q8.2) (stk' := [.int q8.1, .int v2]) (pc' := 37) h dX6_counted_34 rfl ml_X6_154 wc_X6_isSilent wi_X6_isSilent ⟨Nat.le_of_ble_eq_true rfl, Nat.le_of_ble_eq_true rfl⟩ bM_mo rfl rfl rfl rfl (Nat.le_of_ble_eq_true rfl) (fun l => c_X6_isSilent l v3 st  _ _ hq8) rfl ?_
        refine k_if_eq (tgt := 44) (pc' := 40) h dX6_counted_37 rfl rfl (fun c9 => ?_) (fun c9 => ?_)
        · replace hf := if_t c9 hf
          refine k_iload_n (pc' := 45) h dX6_counted_44 rfl rfl 1 rfl ?_
          refine k_iconst (pc' := 46) h dX6_counted_45 rfl ci_5 ?_
          refine k_icmp_ne (tgt := 61) (pc' := 49) h dX6_counted_46 rfl rfl (fun c10 => ?_) (fun c10 => ?_)
          · replace hf := if_f c10 hf
            refine k_iconst (pc' := 62) h dX6_counted_61 rfl ci_0 ?_
            refine k_iadd (pc' := 63) h dX6_counted_62 rfl ?_
            obtain ⟨y11, hy11, hf⟩ := lw_s hf
            refine k_eqi hy11 ?_
            refine k_istore_n (lv' := [(0, .ref (al (oM G) 0)), (1, .int p1), (2, .int y11), (3, .int v3)]) (pc' := 64) h dX6_counted_63 rfl rfl (Nat.le_of_ble_eq_true rfl) [1, 2, 0, 3] rfl ?_
            refine k_iinc (lv' := [(0, .ref (al (oM G) 0)), (1, .int p1), (2, .int y11), (3, .int (v3 + (1 : Int32)))]) (pc' := 67) h dX6_counted_64 rfl 3 rfl (congrArg (fun z => v3 + z) ci_1) (Nat.le_of_ble_eq_true rfl) [1, 2, 3, 0] rfl ?_
            refine k_goto (tgt := 4) h dX6_counted_67 rfl ?_
            refine k_sub (lv' := [(0, .ref (al (oM G) 0)), (1, .int p1), (2, .int y11), (3, .int (v3 + (1 : Int32)))]) [0, 1, 2, 3] rfl ?_
            exact lp_o hf K
          · replace hf := if_t c10 hf
            refine k_aload_n (pc' := 50) h dX6_counted_49 rfl rfl 0 rfl ?_
            refine k_get (v := .ref (al (oM G) 14)) (pc' := 53) h dX6_counted_50 rfl bM_mo fl_X6_54 rfl ?_
            refine k_bipush (pc' := 55) h dX6_counted_53 rfl cb_6 ?_
            refine k_iload_n (pc' := 56) h dX6_counted_55 rfl rfl 3 rfl ?_
            refine k_iadd (pc' := 57) h dX6_counted_56 rfl ?_
            have g12 := gd_1 hf
            replace hf := gd_2 hf
            refine k_iald (pc' := 58) h dX6_counted_57 rfl aM_14 g12 ?_
            refine k_goto (tgt := 62) h dX6_counted_58 rfl ?_
            refine k_iadd (pc' := 63) h dX6_counted_62 rfl ?_
            obtain ⟨y13, hy13, hf⟩ := lw_s hf
            refine k_eqi hy13 ?_
            refine k_istore_n (lv' := [(0, .ref (al (oM G) 0)), (1, .int p1), (2, .int y13), (3, .int v3)]) (pc' := 64) h dX6_counted_63 rfl rfl (Nat.le_of_ble_eq_true rfl) [1, 2, 0, 3] rfl ?_
            refine k_iinc (lv' := [(0, .ref (al (oM G) 0)), (1, .int p1), (2, .int y13), (3, .int (v3 + (1 : Int32)))]) (pc' := 67) h dX6_counted_64 rfl 3 rfl (congrArg (fun z => v3 + z) ci_1) (Nat.le_of_ble_eq_true rfl) [1, 2, 3, 0] rfl ?_
            refine k_goto (tgt := 4) h dX6_counted_67 rfl ?_
            refine k_sub (lv' := [(0, .ref (al (oM G) 0)), (1, .int p1), (2, .int y13), (3, .int (v3 + (1 : Int32)))]) [0, 1, 2, 3] rfl ?_
            exact lp_o hf K
        · replace hf := if_f c9 hf
          refine k_iconst (pc' := 41) h dX6_counted_40 rfl ci_1 ?_
          refine k_goto (tgt := 62) h dX6_counted_41 rfl ?_
          refine k_iadd (pc' := 63) h dX6_counted_62 rfl ?_
          obtain ⟨y14, hy14, hf⟩ := lw_s hf
          refine k_eqi hy14 ?_
          refine k_istore_n (lv' := [(0, .ref (al (oM G) 0)), (1, .int p1), (2, .int y14), (3, .int v3)]) (pc' := 64) h dX6_counted_63 rfl rfl (Nat.le_of_ble_eq_true rfl) [1, 2, 0, 3] rfl ?_
          refine k_iinc (lv' := [(0, .ref (al (oM G) 0)), (1, .int p1), (2, .int y14), (3, .int (v3 + (1 : Int32)))]) (pc' := 67) h dX6_counted_64 rfl 3 rfl (congrArg (fun z => v3 + z) ci_1) (Nat.le_of_ble_eq_true rfl) [1, 2, 3, 0] rfl ?_
          refine k_goto (tgt := 4) h dX6_counted_67 rfl ?_
          refine k_sub (lv' := [(0, .ref (al (oM G) 0)), (1, .int p1), (2, .int y14), (3, .int (v3 + (1 : Int32)))]) [0, 1, 2, 3] rfl ?_
          exact lp_o hf K
    · replace hf := if_t c2 hf
      refine k_aload_n (pc' := 19) h dX6_counted_18 rfl rfl 0 rfl ?_
      refine k_iload_n (pc' := 20) h dX6_counted_19 rfl rfl 3 rfl ?_
      obtain ⟨q15, hq15, hf⟩ := bd_s hf
      refine k_callV (As := [.int v3]) (rest := [.int v2]) (rv := some (.int q15.1)) (st' := q15.2) (stk' := [.int q15.1, .int v2]) (pc' := 23) h dX6_counted_20 rfl ml_X6_151 wc_X6_isKnown wi_X6_isKnown ⟨Nat.le_of_ble_eq_true rfl, Nat.le_of_ble_eq_true rfl⟩ bM_mo rfl rfl rfl rfl (Nat.le_of_ble_eq_true rfl) (fun l => c_X6_isKnown l v3 st  _ _ hq15) rfl ?_
      refine k_if_ne (tgt := 40) (pc' := 26) h dX6_counted_23 rfl rfl (fun c16 => ?_) (fun c16 => ?_)
      · replace hf := if_f c16 hf
        refine k_iconst (pc' := 41) h dX6_counted_40 rfl ci_1 ?_
        refine k_goto (tgt := 62) h dX6_counted_41 rfl ?_
        refine k_iadd (pc' := 63) h dX6_counted_62 rfl ?_
        obtain ⟨y17, hy17, hf⟩ := lw_s hf
        refine k_eqi hy17 ?_
        refine k_istore_n (lv' := [(0, .ref (al (oM G) 0)), (1, .int p1), (2, .int y17), (3, .int v3)]) (pc' := 64) h dX6_counted_63 rfl rfl (Nat.le_of_ble_eq_true rfl) [1, 2, 0, 3] rfl ?_
        refine k_iinc (lv' := [(0, .ref (al (oM G) 0)), (1, .int p1), (2, .int y17), (3, .int (v3 + (1 : Int32)))]) (pc' := 67) h dX6_counted_64 rfl 3 rfl (congrArg (fun z => v3 + z) ci_1) (Nat.le_of_ble_eq_true rfl) [1, 2, 3, 0] rfl ?_
        refine k_goto (tgt := 4) h dX6_counted_67 rfl ?_
        refine k_sub (lv' := [(0, .ref (al (oM G) 0)), (1, .int p1), (2, .int y17), (3, .int (v3 + (1 : Int32)))]) [0, 1, 2, 3] rfl ?_
        exact lp_o hf K
      · replace hf := if_t c16 hf
        refine k_iload_n (pc' := 27) h dX6_counted_26 rfl rfl 1 rfl ?_
        refine k_bipush (pc' := 29) h dX6_counted_27 rfl cb_6 ?_
        refine k_icmp_ne (tgt := 44) (pc' := 32) h dX6_counted_29 rfl rfl (fun c18 => ?_) (fun c18 => ?_)
        · replace hf := if_f c18 hf
          refine k_iload_n (pc' := 45) h dX6_counted_44 rfl rfl 1 rfl ?_
          refine k_iconst (pc' := 46) h dX6_counted_45 rfl ci_5 ?_
          refine k_icmp_ne (tgt := 61) (pc' := 49) h dX6_counted_46 rfl rfl (fun c19 => ?_) (fun c19 => ?_)
          · replace hf := if_f c19 hf
            refine k_iconst (pc' := 62) h dX6_counted_61 rfl ci_0 ?_
            refine k_iadd (pc' := 63) h dX6_counted_62 rfl ?_
            obtain ⟨y20, hy20, hf⟩ := lw_s hf
            refine k_eqi hy20 ?_
            refine k_istore_n (lv' := [(0, .ref (al (oM G) 0)), (1, .int p1), (2, .int y20), (3, .int v3)]) (pc' := 64) h dX6_counted_63 rfl rfl (Nat.le_of_ble_eq_true rfl) [1, 2, 0, 3] rfl ?_
            refine k_iinc (lv' := [(0, .ref (al (oM G) 0)), (1, .int p1), (2, .int y20), (3, .int (v3 + (1 : Int32)))]) (pc' := 67) h dX6_counted_64 rfl 3 rfl (congrArg (fun z => v3 + z) ci_1) (Nat.le_of_ble_eq_true rfl) [1, 2, 3, 0] rfl ?_
            refine k_goto (tgt := 4) h dX6_counted_67 rfl ?_
            refine k_sub (lv' := [(0, .ref (al (oM G) 0)), (1, .int p1), (2, .int y20), (3, .int (v3 + (1 : Int32)))]) [0, 1, 2, 3] rfl ?_
            exact lp_o hf K
          · replace hf := if_t c19 hf
            refine k_aload_n (pc' := 50) h dX6_counted_49 rfl rfl 0 rfl ?_
            refine k_get (v := .ref (al (oM G) 14)) (pc' := 53) h dX6_counted_50 rfl bM_mo fl_X6_54 rfl ?_
            refine k_bipush (pc' := 55) h dX6_counted_53 rfl cb_6 ?_
            refine k_iload_n (pc' := 56) h dX6_counted_55 rfl rfl 3 rfl ?_
            refine k_iadd (pc' := 57) h dX6_counted_56 rfl ?_
            have g21 := gd_1 hf
            replace hf := gd_2 hf
            refine k_iald (pc' := 58) h dX6_counted_57 rfl aM_14 g21 ?_
            refine k_goto (tgt := 62) h dX6_counted_58 rfl ?_
            refine k_iadd (pc' := 63) h dX6_counted_62 rfl ?_
            obtain ⟨y22, hy22, hf⟩ := lw_s hf
            refine k_eqi hy22 ?_
            refine k_istore_n (lv' := [(0, .ref (al (oM G) 0)), (1, .int p1), (2, .int y22), (3, .int v3)]) (pc' := 64) h dX6_counted_63 rfl rfl (Nat.le_of_ble_eq_true rfl) [1, 2, 0, 3] rfl ?_
            refine k_iinc (lv' := [(0, .ref (al (oM G) 0)), (1, .int p1), (2, .int y22), (3, .int (v3 + (1 : Int32)))]) (pc' := 67) h dX6_counted_64 rfl 3 rfl (congrArg (fun z => v3 + z) ci_1) (Nat.le_of_ble_eq_true rfl) [1, 2, 3, 0] rfl ?_
            refine k_goto (tgt := 4) h dX6_counted_67 rfl ?_
            refine k_sub (lv' := [(0, .ref (al (oM G) 0)), (1, .int p1), (2, .int y22), (3, .int (v3 + (1 : Int32)))]) [0, 1, 2, 3] rfl ?_
            exact lp_o hf K
        · replace hf := if_t c18 hf
          refine k_aload_n (pc' := 33) h dX6_counted_32 rfl rfl 0 rfl ?_
          refine k_iload_n (pc' := 34) h dX6_counted_33 rfl rfl 3 rfl ?_
          obtain ⟨q23, hq23, hf⟩ := bd_s hf
          refine k_callV (As := [.int v3]) (rest := [.int v2]) (rv := some (.int q23.1)) (st' := q23.2) (stk' := [.int q23.1, .int v2]) (pc' := 37) h dX6_counted_34 rfl ml_X6_154 wc_X6_isSilent wi_X6_isSilent ⟨Nat.le_of_ble_eq_true rfl, Nat.le_of_ble_eq_true rfl⟩ bM_mo rfl rfl rfl rfl (Nat.le_of_ble_eq_true rfl) (fun l => c_X6_isSilent l v3 q15.2  _ _ hq23) rfl ?_
          refine k_if_eq (tgt := 44) (pc' := 40) h dX6_counted_37 rfl rfl (fun c24 => ?_) (fun c24 => ?_)
          · replace hf := if_t c24 hf
            refine k_iload_n (pc' := 45) h dX6_counted_44 rfl rfl 1 rfl ?_
            refine k_iconst (pc' := 46) h dX6_counted_45 rfl ci_5 ?_
            refine k_icmp_ne (tgt := 61) (pc' := 49) h dX6_counted_46 rfl rfl (fun c25 => ?_) (fun c25 => ?_)
            · replace hf := if_f c25 hf
              refine k_iconst (pc' := 62) h dX6_counted_61 rfl ci_0 ?_
              refine k_iadd (pc' := 63) h dX6_counted_62 rfl ?_
              obtain ⟨y26, hy26, hf⟩ := lw_s hf
              refine k_eqi hy26 ?_
              refine k_istore_n (lv' := [(0, .ref (al (oM G) 0)), (1, .int p1), (2, .int y26), (3, .int v3)]) (pc' := 64) h dX6_counted_63 rfl rfl (Nat.le_of_ble_eq_true rfl) [1, 2, 0, 3] rfl ?_
              refine k_iinc (lv' := [(0, .ref (al (oM G) 0)), (1, .int p1), (2, .int y26), (3, .int (v3 + (1 : Int32)))]) (pc' := 67) h dX6_counted_64 rfl 3 rfl (congrArg (fun z => v3 + z) ci_1) (Nat.le_of_ble_eq_true rfl) [1, 2, 3, 0] rfl ?_
              refine k_goto (tgt := 4) h dX6_counted_67 rfl ?_
              refine k_sub (lv' := [(0, .ref (al (oM G) 0)), (1, .int p1), (2, .int y26), (3, .int (v3 + (1 : Int32)))]) [0, 1, 2, 3] rfl ?_
              exact lp_o hf K
            · replace hf := if_t c25 hf
              refine k_aload_n (pc' := 50) h dX6_counted_49 rfl rfl 0 rfl ?_
              refine k_get (v := .ref (al (oM G) 14)) (pc' := 53) h dX6_counted_50 rfl bM_mo fl_X6_54 rfl ?_
              refine k_bipush (pc' := 55) h dX6_counted_53 rfl cb_6 ?_
              refine k_iload_n (pc' := 56) h dX6_counted_55 rfl rfl 3 rfl ?_
              refine k_iadd (pc' := 57) h dX6_counted_56 rfl ?_
              have g27 := gd_1 hf
              replace hf := gd_2 hf
              refine k_iald (pc' := 58) h dX6_counted_57 rfl aM_14 g27 ?_
              refine k_goto (tgt := 62) h dX6_counted_58 rfl ?_
              refine k_iadd (pc' := 63) h dX6_counted_62 rfl ?_
              obtain ⟨y28, hy28, hf⟩ := lw_s hf
              refine k_eqi hy28 ?_
              refine k_istore_n (lv' := [(0, .ref (al (oM G) 0)), (1, .int p1), (2, .int y28), (3, .int v3)]) (pc' := 64) h dX6_counted_63 rfl rfl (Nat.le_of_ble_eq_true rfl) [1, 2, 0, 3] rfl ?_
              refine k_iinc (lv' := [(0, .ref (al (oM G) 0)), (1, .int p1), (2, .int y28), (3, .int (v3 + (1 : Int32)))]) (pc' := 67) h dX6_counted_64 rfl 3 rfl (congrArg (fun z => v3 + z) ci_1) (Nat.le_of_ble_eq_true rfl) [1, 2, 3, 0] rfl ?_
              refine k_goto (tgt := 4) h dX6_counted_67 rfl ?_
              refine k_sub (lv' := [(0, .ref (al (oM G) 0)), (1, .int p1), (2, .int y28), (3, .int (v3 + (1 : Int32)))]) [0, 1, 2, 3] rfl ?_
              exact lp_o hf K
          · replace hf := if_f c24 hf
            refine k_iconst (pc' := 41) h dX6_counted_40 rfl ci_1 ?_
            refine k_goto (tgt := 62) h dX6_counted_41 rfl ?_
            refine k_iadd (pc' := 63) h dX6_counted_62 rfl ?_
            obtain ⟨y29, hy29, hf⟩ := lw_s hf
            refine k_eqi hy29 ?_
            refine k_istore_n (lv' := [(0, .ref (al (oM G) 0)), (1, .int p1), (2, .int y29), (3, .int v3)]) (pc' := 64) h dX6_counted_63 rfl rfl (Nat.le_of_ble_eq_true rfl) [1, 2, 0, 3] rfl ?_
            refine k_iinc (lv' := [(0, .ref (al (oM G) 0)), (1, .int p1), (2, .int y29), (3, .int (v3 + (1 : Int32)))]) (pc' := 67) h dX6_counted_64 rfl 3 rfl (congrArg (fun z => v3 + z) ci_1) (Nat.le_of_ble_eq_true rfl) [1, 2, 3, 0] rfl ?_
            refine k_goto (tgt := 4) h dX6_counted_67 rfl ?_
            refine k_sub (lv' := [(0, .ref (al (oM G) 0)), (1, .int p1), (2, .int y29), (3, .int (v3 + (1 : Int32)))]) [0, 1, 2, 3] rfl ?_
            exact lp_o hf K
noncomputable def l_X6_counted_72 (p1 : Int32) (v2 : Int32) (v3 : Int32) (st : St) : Option ((Int32 × Int32 × St) ⊕ (Int32 × Int32 × St)) :=
  (if (6 : Int32) ≤ v3 then (some (.inr (v2, v3, st))) else (if p1 = (7 : Int32) then (gd (inb v3 6) (if (st.1 2 v3.toNatClampNeg) < 0 then (lw (v2 + (0 : Int32)) (fun y36 => (some (.inl (y36, v3 + (1 : Int32), st))))) else (lw (v2 + (1 : Int32)) (fun y37 => (some (.inl (y37, v3 + (1 : Int32), st))))))) else (lw (v2 + (0 : Int32)) (fun y33 => (some (.inl (y33, v3 + (1 : Int32), st)))))))
set_option maxHeartbeats 4000000 in
theorem w_X6_counted_72 {G : GG} {X : Cx} (h : Ok X (oM G) cX6_counted RX6 4 (RM 1))  (p1 : Int32)  (n : Nat) (v2 : Int32) (v3 : Int32) (st : St) (q : Int32 × Int32 × St) (hq : iter (fun v : Int32 × Int32 × St => l_X6_counted_72 p1 v.1 v.2.1 v.2.2) n (v2, v3, st) = some q) (kx : Wk X (oM G) 4 q.2.2 107 [(0, .ref (al (oM G) 0)), (1, .int p1), (2, .int q.1), (3, .int q.2.1)] []) : Wk X (oM G) 4 st 72 [(0, .ref (al (oM G) 0)), (1, .int p1), (2, .int v2), (3, .int v3)] [] := by
  refine iter_rule (hd := (fun v : Int32 × Int32 × St => Wk X (oM G) 4 v.2.2 72 [(0, .ref (al (oM G) 0)), (1, .int p1), (2, .int v.1), (3, .int v.2.1)] [])) (ex := (fun v : Int32 × Int32 × St => Wk X (oM G) 4 v.2.2 107 [(0, .ref (al (oM G) 0)), (1, .int p1), (2, .int v.1), (3, .int v.2.1)] [])) ?_ n (v2, v3, st) q hq kx
  rintro ⟨v2, v3, st⟩ oo hbv K
  show Wk X (oM G) 4 st 72 [(0, .ref (al (oM G) 0)), (1, .int p1), (2, .int v2), (3, .int v3)] []
  have hf : l_X6_counted_72 p1 v2 v3 st = some oo := hbv
  unfold l_X6_counted_72 at hf
  refine k_iload_n (pc' := 73) h dX6_counted_72 rfl rfl 3 rfl ?_
  refine k_bipush (pc' := 75) h dX6_counted_73 rfl cb_6 ?_
  refine k_icmp_ge (tgt := 107) (pc' := 78) h dX6_counted_75 rfl rfl (fun c31 => ?_) (fun c31 => ?_)
  · replace hf := if_t c31 hf
    refine k_sub (lv' := [(0, .ref (al (oM G) 0)), (1, .int p1), (2, .int v2), (3, .int v3)]) [0, 1, 2, 3] rfl ?_
    exact lp_o hf K
  · replace hf := if_f c31 hf
    refine k_iload_n (pc' := 79) h dX6_counted_78 rfl rfl 2 rfl ?_
    refine k_iload_n (pc' := 80) h dX6_counted_79 rfl rfl 1 rfl ?_
    refine k_bipush (pc' := 82) h dX6_counted_80 rfl cb_7 ?_
    refine k_icmp_ne (tgt := 98) (pc' := 85) h dX6_counted_82 rfl rfl (fun c32 => ?_) (fun c32 => ?_)
    · replace hf := if_f c32 hf
      refine k_iconst (pc' := 99) h dX6_counted_98 rfl ci_0 ?_
      refine k_iadd (pc' := 100) h dX6_counted_99 rfl ?_
      obtain ⟨y33, hy33, hf⟩ := lw_s hf
      refine k_eqi hy33 ?_
      refine k_istore_n (lv' := [(0, .ref (al (oM G) 0)), (1, .int p1), (2, .int y33), (3, .int v3)]) (pc' := 101) h dX6_counted_100 rfl rfl (Nat.le_of_ble_eq_true rfl) [1, 2, 0, 3] rfl ?_
      refine k_iinc (lv' := [(0, .ref (al (oM G) 0)), (1, .int p1), (2, .int y33), (3, .int (v3 + (1 : Int32)))]) (pc' := 104) h dX6_counted_101 rfl 3 rfl (congrArg (fun z => v3 + z) ci_1) (Nat.le_of_ble_eq_true rfl) [1, 2, 3, 0] rfl ?_
      refine k_goto (tgt := 72) h dX6_counted_104 rfl ?_
      refine k_sub (lv' := [(0, .ref (al (oM G) 0)), (1, .int p1), (2, .int y33), (3, .int (v3 + (1 : Int32)))]) [0, 1, 2, 3] rfl ?_
      exact lp_o hf K
    · replace hf := if_t c32 hf
      refine k_aload_n (pc' := 86) h dX6_counted_85 rfl rfl 0 rfl ?_
      refine k_get (v := .ref (al (oM G) 2)) (pc' := 89) h dX6_counted_86 rfl bM_mo fl_X6_17 rfl ?_
      refine k_iload_n (pc' := 90) h dX6_counted_89 rfl rfl 3 rfl ?_
      have g34 := gd_1 hf
      replace hf := gd_2 hf
      refine k_iald (pc' := 91) h dX6_counted_90 rfl aM_2 g34 ?_
      refine k_if_lt (tgt := 98) (pc' := 94) h dX6_counted_91 rfl rfl (fun c35 => ?_) (fun c35 => ?_)
      · replace hf := if_t c35 hf
        refine k_iconst (pc' := 99) h dX6_counted_98 rfl ci_0 ?_
        refine k_iadd (pc' := 100) h dX6_counted_99 rfl ?_
        obtain ⟨y36, hy36, hf⟩ := lw_s hf
        refine k_eqi hy36 ?_
        refine k_istore_n (lv' := [(0, .ref (al (oM G) 0)), (1, .int p1), (2, .int y36), (3, .int v3)]) (pc' := 101) h dX6_counted_100 rfl rfl (Nat.le_of_ble_eq_true rfl) [1, 2, 0, 3] rfl ?_
        refine k_iinc (lv' := [(0, .ref (al (oM G) 0)), (1, .int p1), (2, .int y36), (3, .int (v3 + (1 : Int32)))]) (pc' := 104) h dX6_counted_101 rfl 3 rfl (congrArg (fun z => v3 + z) ci_1) (Nat.le_of_ble_eq_true rfl) [1, 2, 3, 0] rfl ?_
        refine k_goto (tgt := 72) h dX6_counted_104 rfl ?_
        refine k_sub (lv' := [(0, .ref (al (oM G) 0)), (1, .int p1), (2, .int y36), (3, .int (v3 + (1 : Int32)))]) [0, 1, 2, 3] rfl ?_
        exact lp_o hf K
      · replace hf := if_f c35 hf
        refine k_iconst (pc' := 95) h dX6_counted_94 rfl ci_1 ?_
        refine k_goto (tgt := 99) h dX6_counted_95 rfl ?_
        refine k_iadd (pc' := 100) h dX6_counted_99 rfl ?_
        obtain ⟨y37, hy37, hf⟩ := lw_s hf
        refine k_eqi hy37 ?_
        refine k_istore_n (lv' := [(0, .ref (al (oM G) 0)), (1, .int p1), (2, .int y37), (3, .int v3)]) (pc' := 101) h dX6_counted_100 rfl rfl (Nat.le_of_ble_eq_true rfl) [1, 2, 0, 3] rfl ?_
        refine k_iinc (lv' := [(0, .ref (al (oM G) 0)), (1, .int p1), (2, .int y37), (3, .int (v3 + (1 : Int32)))]) (pc' := 104) h dX6_counted_101 rfl 3 rfl (congrArg (fun z => v3 + z) ci_1) (Nat.le_of_ble_eq_true rfl) [1, 2, 3, 0] rfl ?_
        refine k_goto (tgt := 72) h dX6_counted_104 rfl ?_
        refine k_sub (lv' := [(0, .ref (al (oM G) 0)), (1, .int p1), (2, .int y37), (3, .int (v3 + (1 : Int32)))]) [0, 1, 2, 3] rfl ?_
        exact lp_o hf K
noncomputable def l_X6_counted_109 (p1 : Int32) (v2 : Int32) (v3 : Int32) (st : St) : Option ((Int32 × Int32 × St) ⊕ (Int32 × Int32 × St)) :=
  (if (4 : Int32) ≤ v3 then (some (.inr (v2, v3, st))) else (if p1 = (8 : Int32) then (gd (inb v3 4) (if (st.1 5 v3.toNatClampNeg) < 0 then (lw (v2 + (0 : Int32)) (fun y44 => (some (.inl (y44, v3 + (1 : Int32), st))))) else (lw (v2 + (1 : Int32)) (fun y45 => (some (.inl (y45, v3 + (1 : Int32), st))))))) else (lw (v2 + (0 : Int32)) (fun y41 => (some (.inl (y41, v3 + (1 : Int32), st)))))))
set_option maxHeartbeats 4000000 in
theorem w_X6_counted_109 {G : GG} {X : Cx} (h : Ok X (oM G) cX6_counted RX6 4 (RM 1))  (p1 : Int32)  (n : Nat) (v2 : Int32) (v3 : Int32) (st : St) (q : Int32 × Int32 × St) (hq : iter (fun v : Int32 × Int32 × St => l_X6_counted_109 p1 v.1 v.2.1 v.2.2) n (v2, v3, st) = some q) (kx : Wk X (oM G) 4 q.2.2 143 [(0, .ref (al (oM G) 0)), (1, .int p1), (2, .int q.1), (3, .int q.2.1)] []) : Wk X (oM G) 4 st 109 [(0, .ref (al (oM G) 0)), (1, .int p1), (2, .int v2), (3, .int v3)] [] := by
  refine iter_rule (hd := (fun v : Int32 × Int32 × St => Wk X (oM G) 4 v.2.2 109 [(0, .ref (al (oM G) 0)), (1, .int p1), (2, .int v.1), (3, .int v.2.1)] [])) (ex := (fun v : Int32 × Int32 × St => Wk X (oM G) 4 v.2.2 143 [(0, .ref (al (oM G) 0)), (1, .int p1), (2, .int v.1), (3, .int v.2.1)] [])) ?_ n (v2, v3, st) q hq kx
  rintro ⟨v2, v3, st⟩ oo hbv K
  show Wk X (oM G) 4 st 109 [(0, .ref (al (oM G) 0)), (1, .int p1), (2, .int v2), (3, .int v3)] []
  have hf : l_X6_counted_109 p1 v2 v3 st = some oo := hbv
  unfold l_X6_counted_109 at hf
  refine k_iload_n (pc' := 110) h dX6_counted_109 rfl rfl 3 rfl ?_
  refine k_iconst (pc' := 111) h dX6_counted_110 rfl ci_4 ?_
  refine k_icmp_ge (tgt := 143) (pc' := 114) h dX6_counted_111 rfl rfl (fun c39 => ?_) (fun c39 => ?_)
  · replace hf := if_t c39 hf
    refine k_sub (lv' := [(0, .ref (al (oM G) 0)), (1, .int p1), (2, .int v2), (3, .int v3)]) [0, 1, 2, 3] rfl ?_
    exact lp_o hf K
  · replace hf := if_f c39 hf
    refine k_iload_n (pc' := 115) h dX6_counted_114 rfl rfl 2 rfl ?_
    refine k_iload_n (pc' := 116) h dX6_counted_115 rfl rfl 1 rfl ?_
    refine k_bipush (pc' := 118) h dX6_counted_116 rfl cb_8 ?_
    refine k_icmp_ne (tgt := 134) (pc' := 121) h dX6_counted_118 rfl rfl (fun c40 => ?_) (fun c40 => ?_)
    · replace hf := if_f c40 hf
      refine k_iconst (pc' := 135) h dX6_counted_134 rfl ci_0 ?_
      refine k_iadd (pc' := 136) h dX6_counted_135 rfl ?_
      obtain ⟨y41, hy41, hf⟩ := lw_s hf
      refine k_eqi hy41 ?_
      refine k_istore_n (lv' := [(0, .ref (al (oM G) 0)), (1, .int p1), (2, .int y41), (3, .int v3)]) (pc' := 137) h dX6_counted_136 rfl rfl (Nat.le_of_ble_eq_true rfl) [1, 2, 0, 3] rfl ?_
      refine k_iinc (lv' := [(0, .ref (al (oM G) 0)), (1, .int p1), (2, .int y41), (3, .int (v3 + (1 : Int32)))]) (pc' := 140) h dX6_counted_137 rfl 3 rfl (congrArg (fun z => v3 + z) ci_1) (Nat.le_of_ble_eq_true rfl) [1, 2, 3, 0] rfl ?_
      refine k_goto (tgt := 109) h dX6_counted_140 rfl ?_
      refine k_sub (lv' := [(0, .ref (al (oM G) 0)), (1, .int p1), (2, .int y41), (3, .int (v3 + (1 : Int32)))]) [0, 1, 2, 3] rfl ?_
      exact lp_o hf K
    · replace hf := if_t c40 hf
      refine k_aload_n (pc' := 122) h dX6_counted_121 rfl rfl 0 rfl ?_
      refine k_get (v := .ref (al (oM G) 5)) (pc' := 125) h dX6_counted_122 rfl bM_mo fl_X6_26 rfl ?_
      refine k_iload_n (pc' := 126) h dX6_counted_125 rfl rfl 3 rfl ?_
      have g42 := gd_1 hf
      replace hf := gd_2 hf
      refine k_iald (pc' := 127) h dX6_counted_126 rfl aM_5 g42 ?_
      refine k_if_lt (tgt := 134) (pc' := 130) h dX6_counted_127 rfl rfl (fun c43 => ?_) (fun c43 => ?_)
      · replace hf := if_t c43 hf
        refine k_iconst (pc' := 135) h dX6_counted_134 rfl ci_0 ?_
        refine k_iadd (pc' := 136) h dX6_counted_135 rfl ?_
        obtain ⟨y44, hy44, hf⟩ := lw_s hf
        refine k_eqi hy44 ?_
        refine k_istore_n (lv' := [(0, .ref (al (oM G) 0)), (1, .int p1), (2, .int y44), (3, .int v3)]) (pc' := 137) h dX6_counted_136 rfl rfl (Nat.le_of_ble_eq_true rfl) [1, 2, 0, 3] rfl ?_
        refine k_iinc (lv' := [(0, .ref (al (oM G) 0)), (1, .int p1), (2, .int y44), (3, .int (v3 + (1 : Int32)))]) (pc' := 140) h dX6_counted_137 rfl 3 rfl (congrArg (fun z => v3 + z) ci_1) (Nat.le_of_ble_eq_true rfl) [1, 2, 3, 0] rfl ?_
        refine k_goto (tgt := 109) h dX6_counted_140 rfl ?_
        refine k_sub (lv' := [(0, .ref (al (oM G) 0)), (1, .int p1), (2, .int y44), (3, .int (v3 + (1 : Int32)))]) [0, 1, 2, 3] rfl ?_
        exact lp_o hf K
      · replace hf := if_f c43 hf
        refine k_iconst (pc' := 131) h dX6_counted_130 rfl ci_1 ?_
        refine k_goto (tgt := 135) h dX6_counted_131 rfl ?_
        refine k_iadd (pc' := 136) h dX6_counted_135 rfl ?_
        obtain ⟨y45, hy45, hf⟩ := lw_s hf
        refine k_eqi hy45 ?_
        refine k_istore_n (lv' := [(0, .ref (al (oM G) 0)), (1, .int p1), (2, .int y45), (3, .int v3)]) (pc' := 137) h dX6_counted_136 rfl rfl (Nat.le_of_ble_eq_true rfl) [1, 2, 0, 3] rfl ?_
        refine k_iinc (lv' := [(0, .ref (al (oM G) 0)), (1, .int p1), (2, .int y45), (3, .int (v3 + (1 : Int32)))]) (pc' := 140) h dX6_counted_137 rfl 3 rfl (congrArg (fun z => v3 + z) ci_1) (Nat.le_of_ble_eq_true rfl) [1, 2, 3, 0] rfl ?_
        refine k_goto (tgt := 109) h dX6_counted_140 rfl ?_
        refine k_sub (lv' := [(0, .ref (al (oM G) 0)), (1, .int p1), (2, .int y45), (3, .int (v3 + (1 : Int32)))]) [0, 1, 2, 3] rfl ?_
        exact lp_o hf K
noncomputable def l_X6_counted_145 (p1 : Int32) (v2 : Int32) (v3 : Int32) (st : St) : Option ((Int32 × Int32 × St) ⊕ (Int32 × Int32 × St)) :=
  (if (3 : Int32) ≤ v3 then (some (.inr (v2, v3, st))) else (if p1 = (9 : Int32) then (gd (inb v3 3) (if (st.1 16 v3.toNatClampNeg) = 0 then (lw (v2 + (0 : Int32)) (fun y52 => (some (.inl (y52, v3 + (1 : Int32), st))))) else (lw (v2 + (1 : Int32)) (fun y53 => (some (.inl (y53, v3 + (1 : Int32), st))))))) else (lw (v2 + (0 : Int32)) (fun y49 => (some (.inl (y49, v3 + (1 : Int32), st)))))))
set_option maxHeartbeats 4000000 in
theorem w_X6_counted_145 {G : GG} {X : Cx} (h : Ok X (oM G) cX6_counted RX6 4 (RM 1))  (p1 : Int32)  (n : Nat) (v2 : Int32) (v3 : Int32) (st : St) (q : Int32 × Int32 × St) (hq : iter (fun v : Int32 × Int32 × St => l_X6_counted_145 p1 v.1 v.2.1 v.2.2) n (v2, v3, st) = some q) (kx : Wk X (oM G) 4 q.2.2 179 [(0, .ref (al (oM G) 0)), (1, .int p1), (2, .int q.1), (3, .int q.2.1)] []) : Wk X (oM G) 4 st 145 [(0, .ref (al (oM G) 0)), (1, .int p1), (2, .int v2), (3, .int v3)] [] := by
  refine iter_rule (hd := (fun v : Int32 × Int32 × St => Wk X (oM G) 4 v.2.2 145 [(0, .ref (al (oM G) 0)), (1, .int p1), (2, .int v.1), (3, .int v.2.1)] [])) (ex := (fun v : Int32 × Int32 × St => Wk X (oM G) 4 v.2.2 179 [(0, .ref (al (oM G) 0)), (1, .int p1), (2, .int v.1), (3, .int v.2.1)] [])) ?_ n (v2, v3, st) q hq kx
  rintro ⟨v2, v3, st⟩ oo hbv K
  show Wk X (oM G) 4 st 145 [(0, .ref (al (oM G) 0)), (1, .int p1), (2, .int v2), (3, .int v3)] []
  have hf : l_X6_counted_145 p1 v2 v3 st = some oo := hbv
  unfold l_X6_counted_145 at hf
  refine k_iload_n (pc' := 146) h dX6_counted_145 rfl rfl 3 rfl ?_
  refine k_iconst (pc' := 147) h dX6_counted_146 rfl ci_3 ?_
  refine k_icmp_ge (tgt := 179) (pc' := 150) h dX6_counted_147 rfl rfl (fun c47 => ?_) (fun c47 => ?_)
  · replace hf := if_t c47 hf
    refine k_sub (lv' := [(0, .ref (al (oM G) 0)), (1, .int p1), (2, .int v2), (3, .int v3)]) [0, 1, 2, 3] rfl ?_
    exact lp_o hf K
  · replace hf := if_f c47 hf
    refine k_iload_n (pc' := 151) h dX6_counted_150 rfl rfl 2 rfl ?_
    refine k_iload_n (pc' := 152) h dX6_counted_151 rfl rfl 1 rfl ?_
    refine k_bipush (pc' := 154) h dX6_counted_152 rfl cb_9 ?_
    refine k_icmp_ne (tgt := 170) (pc' := 157) h dX6_counted_154 rfl rfl (fun c48 => ?_) (fun c48 => ?_)
    · replace hf := if_f c48 hf
      refine k_iconst (pc' := 171) h dX6_counted_170 rfl ci_0 ?_
      refine k_iadd (pc' := 172) h dX6_counted_171 rfl ?_
      obtain ⟨y49, hy49, hf⟩ := lw_s hf
      refine k_eqi hy49 ?_
      refine k_istore_n (lv' := [(0, .ref (al (oM G) 0)), (1, .int p1), (2, .int y49), (3, .int v3)]) (pc' := 173) h dX6_counted_172 rfl rfl (Nat.le_of_ble_eq_true rfl) [1, 2, 0, 3] rfl ?_
      refine k_iinc (lv' := [(0, .ref (al (oM G) 0)), (1, .int p1), (2, .int y49), (3, .int (v3 + (1 : Int32)))]) (pc' := 176) h dX6_counted_173 rfl 3 rfl (congrArg (fun z => v3 + z) ci_1) (Nat.le_of_ble_eq_true rfl) [1, 2, 3, 0] rfl ?_
      refine k_goto (tgt := 145) h dX6_counted_176 rfl ?_
      refine k_sub (lv' := [(0, .ref (al (oM G) 0)), (1, .int p1), (2, .int y49), (3, .int (v3 + (1 : Int32)))]) [0, 1, 2, 3] rfl ?_
      exact lp_o hf K
    · replace hf := if_t c48 hf
      refine k_aload_n (pc' := 158) h dX6_counted_157 rfl rfl 0 rfl ?_
      refine k_get (v := .ref (al (oM G) 16)) (pc' := 161) h dX6_counted_158 rfl bM_mo fl_X6_60 rfl ?_
      refine k_iload_n (pc' := 162) h dX6_counted_161 rfl rfl 3 rfl ?_
      have g50 := gd_1 hf
      replace hf := gd_2 hf
      refine k_zald (pc' := 163) h dX6_counted_162 rfl aM_16 g50 ?_
      refine k_if_eq (tgt := 170) (pc' := 166) h dX6_counted_163 rfl rfl (fun c51 => ?_) (fun c51 => ?_)
      · replace hf := if_t c51 hf
        refine k_iconst (pc' := 171) h dX6_counted_170 rfl ci_0 ?_
        refine k_iadd (pc' := 172) h dX6_counted_171 rfl ?_
        obtain ⟨y52, hy52, hf⟩ := lw_s hf
        refine k_eqi hy52 ?_
        refine k_istore_n (lv' := [(0, .ref (al (oM G) 0)), (1, .int p1), (2, .int y52), (3, .int v3)]) (pc' := 173) h dX6_counted_172 rfl rfl (Nat.le_of_ble_eq_true rfl) [1, 2, 0, 3] rfl ?_
        refine k_iinc (lv' := [(0, .ref (al (oM G) 0)), (1, .int p1), (2, .int y52), (3, .int (v3 + (1 : Int32)))]) (pc' := 176) h dX6_counted_173 rfl 3 rfl (congrArg (fun z => v3 + z) ci_1) (Nat.le_of_ble_eq_true rfl) [1, 2, 3, 0] rfl ?_
        refine k_goto (tgt := 145) h dX6_counted_176 rfl ?_
        refine k_sub (lv' := [(0, .ref (al (oM G) 0)), (1, .int p1), (2, .int y52), (3, .int (v3 + (1 : Int32)))]) [0, 1, 2, 3] rfl ?_
        exact lp_o hf K
      · replace hf := if_f c51 hf
        refine k_iconst (pc' := 167) h dX6_counted_166 rfl ci_1 ?_
        refine k_goto (tgt := 171) h dX6_counted_167 rfl ?_
        refine k_iadd (pc' := 172) h dX6_counted_171 rfl ?_
        obtain ⟨y53, hy53, hf⟩ := lw_s hf
        refine k_eqi hy53 ?_
        refine k_istore_n (lv' := [(0, .ref (al (oM G) 0)), (1, .int p1), (2, .int y53), (3, .int v3)]) (pc' := 173) h dX6_counted_172 rfl rfl (Nat.le_of_ble_eq_true rfl) [1, 2, 0, 3] rfl ?_
        refine k_iinc (lv' := [(0, .ref (al (oM G) 0)), (1, .int p1), (2, .int y53), (3, .int (v3 + (1 : Int32)))]) (pc' := 176) h dX6_counted_173 rfl 3 rfl (congrArg (fun z => v3 + z) ci_1) (Nat.le_of_ble_eq_true rfl) [1, 2, 3, 0] rfl ?_
        refine k_goto (tgt := 145) h dX6_counted_176 rfl ?_
        refine k_sub (lv' := [(0, .ref (al (oM G) 0)), (1, .int p1), (2, .int y53), (3, .int (v3 + (1 : Int32)))]) [0, 1, 2, 3] rfl ?_
        exact lp_o hf K
noncomputable def f_X6_counted (x0 : Int32) (st : St) : Option (Int32 × St) :=
  ((iter (fun v : Int32 × Int32 × St => l_X6_counted_4 x0 v.1 v.2.1 v.2.2) fuel ((0 : Int32), (0 : Int32), st)).bind (fun q30 => ((iter (fun v : Int32 × Int32 × St => l_X6_counted_72 x0 v.1 v.2.1 v.2.2) fuel (q30.1, (0 : Int32), q30.2.2)).bind (fun q38 => ((iter (fun v : Int32 × Int32 × St => l_X6_counted_109 x0 v.1 v.2.1 v.2.2) fuel (q38.1, (0 : Int32), q38.2.2)).bind (fun q46 => ((iter (fun v : Int32 × Int32 × St => l_X6_counted_145 x0 v.1 v.2.1 v.2.2) fuel (q46.1, (0 : Int32), q46.2.2)).bind (fun q54 => (if x0 = (0 : Int32) then (some (q54.2.2.1 0 10, q54.2.2)) else (if x0 = (1 : Int32) then (gd (inb (12 : Int32) 14) (some (q54.2.2.1 14 (12 : Int32).toNatClampNeg, q54.2.2))) else (if x0 = (2 : Int32) then (gd (inb (13 : Int32) 14) (some (q54.2.2.1 14 (13 : Int32).toNatClampNeg, q54.2.2))) else (if x0 = (3 : Int32) then (some (q54.2.2.1 0 21, q54.2.2)) else (some (q54.1, q54.2.2))))))))))))))
set_option maxHeartbeats 4000000 in
theorem c_X6_counted {G : GG} (l : Launch) (x0 : Int32) (st : St)  (rr : Int32) (st' : St) (hf : f_X6_counted x0 st = some (rr, st')) : MM l yX6_counted cX6_counted 4 (some .int) 1 (oM G) [.ref (al (oM G) 0), .int x0] st (some (.int rr)) st' := by
  refine mk_MM (by decide +kernel) (Nat.le_of_ble_eq_true rfl) (fun X h r => ?_)
  refine k_sub (lv' := [(0, .ref (al (oM G) 0)), (1, .int x0)]) [0, 1] rfl ?_
  unfold f_X6_counted at hf
  refine k_iconst (pc' := 1) h dX6_counted_0 rfl ci_0 ?_
  refine k_istore_n (lv' := [(0, .ref (al (oM G) 0)), (1, .int x0), (2, .int (0 : Int32))]) (pc' := 2) h dX6_counted_1 rfl rfl (Nat.le_of_ble_eq_true rfl) [1, 2, 0] rfl ?_
  refine k_iconst (pc' := 3) h dX6_counted_2 rfl ci_0 ?_
  refine k_istore_n (lv' := [(0, .ref (al (oM G) 0)), (1, .int x0), (2, .int (0 : Int32)), (3, .int (0 : Int32))]) (pc' := 4) h dX6_counted_3 rfl rfl (Nat.le_of_ble_eq_true rfl) [1, 2, 3, 0] rfl ?_
  obtain ⟨q30, hq30, hf⟩ := bd_s hf
  refine w_X6_counted_4 h x0  fuel (0 : Int32) (0 : Int32) st q30 hq30 ?_
  refine k_iconst (pc' := 71) h dX6_counted_70 rfl ci_0 ?_
  refine k_istore_n (lv' := [(0, .ref (al (oM G) 0)), (1, .int x0), (2, .int q30.1), (3, .int (0 : Int32))]) (pc' := 72) h dX6_counted_71 rfl rfl (Nat.le_of_ble_eq_true rfl) [1, 2, 3, 0] rfl ?_
  obtain ⟨q38, hq38, hf⟩ := bd_s hf
  refine w_X6_counted_72 h x0  fuel q30.1 (0 : Int32) q30.2.2 q38 hq38 ?_
  refine k_iconst (pc' := 108) h dX6_counted_107 rfl ci_0 ?_
  refine k_istore_n (lv' := [(0, .ref (al (oM G) 0)), (1, .int x0), (2, .int q38.1), (3, .int (0 : Int32))]) (pc' := 109) h dX6_counted_108 rfl rfl (Nat.le_of_ble_eq_true rfl) [1, 2, 3, 0] rfl ?_
  obtain ⟨q46, hq46, hf⟩ := bd_s hf
  refine w_X6_counted_109 h x0  fuel q38.1 (0 : Int32) q38.2.2 q46 hq46 ?_
  refine k_iconst (pc' := 144) h dX6_counted_143 rfl ci_0 ?_
  refine k_istore_n (lv' := [(0, .ref (al (oM G) 0)), (1, .int x0), (2, .int q46.1), (3, .int (0 : Int32))]) (pc' := 145) h dX6_counted_144 rfl rfl (Nat.le_of_ble_eq_true rfl) [1, 2, 3, 0] rfl ?_
  obtain ⟨q54, hq54, hf⟩ := bd_s hf
  refine w_X6_counted_145 h x0  fuel q46.1 (0 : Int32) q46.2.2 q54 hq54 ?_
  refine k_iload_n (pc' := 180) h dX6_counted_179 rfl rfl 1 rfl ?_
  by_cases c55 : x0 = (0 : Int32)
  · replace hf := if_t c55 hf
    refine k_tin (tgt := 212) h 0 dX6_counted_180 (by rw [c55]; decide +kernel) (by decide) (by decide) rfl rfl ?_
    refine k_aload_n (pc' := 213) h dX6_counted_212 rfl rfl 0 rfl ?_
    refine k_get (v := .int (q54.2.2.1 0 10)) (pc' := 216) h dX6_counted_213 rfl bM_mo fl_X6_135 rfl ?_
    exact k_iret h r dX6_counted_216 (lf_i hf)
  replace hf := if_f c55 hf
  by_cases c56 : x0 = (1 : Int32)
  · replace hf := if_t c56 hf
    refine k_tin (tgt := 217) h 1 dX6_counted_180 (by rw [c56]; decide +kernel) (by decide) (by decide) rfl rfl ?_
    refine k_aload_n (pc' := 218) h dX6_counted_217 rfl rfl 0 rfl ?_
    refine k_get (v := .ref (al (oM G) 14)) (pc' := 221) h dX6_counted_218 rfl bM_mo fl_X6_54 rfl ?_
    refine k_bipush (pc' := 223) h dX6_counted_221 rfl cb_12 ?_
    have g57 := gd_1 hf
    replace hf := gd_2 hf
    refine k_iald (pc' := 224) h dX6_counted_223 rfl aM_14 g57 ?_
    exact k_iret h r dX6_counted_224 (lf_i hf)
  replace hf := if_f c56 hf
  by_cases c58 : x0 = (2 : Int32)
  · replace hf := if_t c58 hf
    refine k_tin (tgt := 225) h 2 dX6_counted_180 (by rw [c58]; decide +kernel) (by decide) (by decide) rfl rfl ?_
    refine k_aload_n (pc' := 226) h dX6_counted_225 rfl rfl 0 rfl ?_
    refine k_get (v := .ref (al (oM G) 14)) (pc' := 229) h dX6_counted_226 rfl bM_mo fl_X6_54 rfl ?_
    refine k_bipush (pc' := 231) h dX6_counted_229 rfl cb_13 ?_
    have g59 := gd_1 hf
    replace hf := gd_2 hf
    refine k_iald (pc' := 232) h dX6_counted_231 rfl aM_14 g59 ?_
    exact k_iret h r dX6_counted_232 (lf_i hf)
  replace hf := if_f c58 hf
  by_cases c60 : x0 = (3 : Int32)
  · replace hf := if_t c60 hf
    refine k_tin (tgt := 233) h 3 dX6_counted_180 (by rw [c60]; decide +kernel) (by decide) (by decide) rfl rfl ?_
    refine k_aload_n (pc' := 234) h dX6_counted_233 rfl rfl 0 rfl ?_
    refine k_get (v := .int (q54.2.2.1 0 21)) (pc' := 237) h dX6_counted_234 rfl bM_mo fl_X6_138 rfl ?_
    exact k_iret h r dX6_counted_237 (lf_i hf)
  replace hf := if_f c60 hf
  have hsw : x0.toInt ≠ 0 ∧ x0.toInt ≠ 1 ∧ x0.toInt ≠ 2 ∧ x0.toInt ≠ 3 := ⟨sw_ne c55 (by decide +kernel), sw_ne c56 (by decide +kernel), sw_ne c58 (by decide +kernel), sw_ne c60 (by decide +kernel)⟩
  refine k_tout (tgt := 238) h dX6_counted_180 (by omega) rfl ?_
  refine k_iload_n (pc' := 239) h dX6_counted_238 rfl rfl 2 rfl ?_
  exact k_iret h r dX6_counted_239 (lf_i hf)
noncomputable def f_X6_count (x0 : Int32) (st : St) : Option (Int32 × St) :=
  ((f_X6_in x0 (0 : Int32) (9 : Int32) st).bind (fun q1 => (if q1.1 = 0 then (some ((-1 : Int32), q1.2)) else ((f_X6_counted x0 q1.2).bind (fun q3 => (some (q3.1, q3.2)))))))
set_option maxHeartbeats 4000000 in
theorem c_X6_count {G : GG} (l : Launch) (x0 : Int32) (st : St)  (rr : Int32) (st' : St) (hf : f_X6_count x0 st = some (rr, st')) : MM l yX6_count cX6_count 2 (some .int) 2 (oM G) [.ref (al (oM G) 0), .int x0] st (some (.int rr)) st' := by
  refine mk_MM (by decide +kernel) (Nat.le_of_ble_eq_true rfl) (fun X h r => ?_)
  refine k_sub (lv' := [(0, .ref (al (oM G) 0)), (1, .int x0)]) [0, 1] rfl ?_
  unfold f_X6_count at hf
  refine k_iload_n (pc' := 1) h dX6_count_0 rfl rfl 1 rfl ?_
  refine k_iconst (pc' := 2) h dX6_count_1 rfl ci_0 ?_
  refine k_bipush (pc' := 4) h dX6_count_2 rfl cb_9 ?_
  obtain ⟨q1, hq1, hf⟩ := bd_s hf
  refine k_callS (As := [.int x0, .int (0 : Int32), .int (9 : Int32)]) (rest := []) (rv := some (.int q1.1)) (st' := q1.2) (stk' := [.int q1.1]) (pc' := 7) h dX6_count_4 rfl ml_X6_83 wc_X6_in ws_X6_in ⟨Nat.le_of_ble_eq_true rfl, Nat.le_of_ble_eq_true rfl⟩ rfl rfl (Nat.le_of_ble_eq_true rfl) (fun l => c_X6_in l x0 (0 : Int32) (9 : Int32) st  _ _ hq1) rfl ?_
  refine k_if_eq (tgt := 18) (pc' := 10) h dX6_count_7 rfl rfl (fun c2 => ?_) (fun c2 => ?_)
  · replace hf := if_t c2 hf
    refine k_iconst (pc' := 19) h dX6_count_18 rfl ci_m1 ?_
    exact k_iret h r dX6_count_19 (lf_i hf)
  · replace hf := if_f c2 hf
    refine k_aload_n (pc' := 11) h dX6_count_10 rfl rfl 0 rfl ?_
    refine k_iload_n (pc' := 12) h dX6_count_11 rfl rfl 1 rfl ?_
    obtain ⟨q3, hq3, hf⟩ := bd_s hf
    refine k_callV (As := [.int x0]) (rest := []) (rv := some (.int q3.1)) (st' := q3.2) (stk' := [.int q3.1]) (pc' := 15) h dX6_count_12 rfl ml_X6_272 wc_X6_counted wi_X6_counted ⟨Nat.le_of_ble_eq_true rfl, Nat.le_of_ble_eq_true rfl⟩ bM_mo rfl rfl rfl rfl (Nat.le_of_ble_eq_true rfl) (fun l => c_X6_counted l x0 q1.2  _ _ hq3) rfl ?_
    refine k_goto (tgt := 19) h dX6_count_15 rfl ?_
    exact k_iret h r dX6_count_19 (lf_i hf)
noncomputable def f_X6_mix (x0 : Int64) (st : St) : Option (St) :=
  (ls (sL st 2 (((31 : Int64) * (st.2 2)) + x0)) (fun s1 => (some s1)))
set_option maxHeartbeats 4000000 in
theorem c_X6_mix {G : GG} (l : Launch) (x0 : Int64) (st : St)  (st' : St) (hf : f_X6_mix x0 st = some st') : MM l yX6_mix cX6_mix 3 none 0 (oM G) [.ref (al (oM G) 0), .long x0] st none st' := by
  refine mk_MM (by decide +kernel) (Nat.le_of_ble_eq_true rfl) (fun X h r => ?_)
  refine k_sub (lv' := [(0, .ref (al (oM G) 0)), (1, .long x0)]) [0, 1] rfl ?_
  unfold f_X6_mix at hf
  refine k_aload_n (pc' := 1) h dX6_mix_0 rfl rfl 0 rfl ?_
  refine k_ldc2 (pc' := 4) h dX6_mix_1 rfl cst_X6_275 ?_
  refine k_aload_n (pc' := 5) h dX6_mix_4 rfl rfl 0 rfl ?_
  refine k_get (v := .long (st.2 2)) (pc' := 8) h dX6_mix_5 rfl bM_mo fl_X6_277 rfl ?_
  refine k_lmul (pc' := 9) h dX6_mix_8 rfl ?_
  refine k_lload_n (pc' := 10) h dX6_mix_9 rfl rfl 1 rfl ?_
  refine k_ladd (pc' := 11) h dX6_mix_10 rfl ?_
  refine k_putl (pc' := 14) h dX6_mix_11 rfl bM_mo nM fp_X6_277 sl_mo_32 sj_mo_32 ?_
  obtain ⟨s1, hs1, hf⟩ := ls_s hf
  refine k_st hs1 ?_
  exact k_vret h r dX6_mix_14 (lf_v hf)
noncomputable def l_X6_mixShop_12 (p1 : Int32) (v2 : Int32) (st : St) : Option ((Int32 × St) ⊕ (Int32 × St)) :=
  (if (9 : Int32) ≤ v2 then (some (.inr (v2, st))) else ((f_X6_regularTells p1 v2 st).bind (fun q3 => ((f_X6_mix q3.1.toInt64 q3.2).bind (fun q4 => (some (.inl (v2 + (1 : Int32), q4))))))))
set_option maxHeartbeats 4000000 in
theorem w_X6_mixShop_12 {G : GG} {X : Cx} (h : Ok X (oM G) cX6_mixShop RX6 3 (RM 4))  (p1 : Int32)  (n : Nat) (v2 : Int32) (st : St) (q : Int32 × St) (hq : iter (fun v : Int32 × St => l_X6_mixShop_12 p1 v.1 v.2) n (v2, st) = some q) (kx : Wk X (oM G) 3 q.2 35 [(0, .ref (al (oM G) 0)), (1, .int p1), (2, .int q.1)] []) : Wk X (oM G) 3 st 12 [(0, .ref (al (oM G) 0)), (1, .int p1), (2, .int v2)] [] := by
  refine iter_rule (hd := (fun v : Int32 × St => Wk X (oM G) 3 v.2 12 [(0, .ref (al (oM G) 0)), (1, .int p1), (2, .int v.1)] [])) (ex := (fun v : Int32 × St => Wk X (oM G) 3 v.2 35 [(0, .ref (al (oM G) 0)), (1, .int p1), (2, .int v.1)] [])) ?_ n (v2, st) q hq kx
  rintro ⟨v2, st⟩ oo hbv K
  show Wk X (oM G) 3 st 12 [(0, .ref (al (oM G) 0)), (1, .int p1), (2, .int v2)] []
  have hf : l_X6_mixShop_12 p1 v2 st = some oo := hbv
  unfold l_X6_mixShop_12 at hf
  refine k_iload_n (pc' := 13) h dX6_mixShop_12 rfl rfl 2 rfl ?_
  refine k_bipush (pc' := 15) h dX6_mixShop_13 rfl cb_9 ?_
  refine k_icmp_ge (tgt := 35) (pc' := 18) h dX6_mixShop_15 rfl rfl (fun c2 => ?_) (fun c2 => ?_)
  · replace hf := if_t c2 hf
    refine k_sub (lv' := [(0, .ref (al (oM G) 0)), (1, .int p1), (2, .int v2)]) [0, 1, 2] rfl ?_
    exact lp_o hf K
  · replace hf := if_f c2 hf
    refine k_aload_n (pc' := 19) h dX6_mixShop_18 rfl rfl 0 rfl ?_
    refine k_aload_n (pc' := 20) h dX6_mixShop_19 rfl rfl 0 rfl ?_
    refine k_iload_n (pc' := 21) h dX6_mixShop_20 rfl rfl 1 rfl ?_
    refine k_iload_n (pc' := 22) h dX6_mixShop_21 rfl rfl 2 rfl ?_
    obtain ⟨q3, hq3, hf⟩ := bd_s hf
    refine k_callV (As := [.int p1, .int v2]) (rest := [.ref (al (oM G) 0)]) (rv := some (.int q3.1)) (st' := q3.2) (stk' := [.int q3.1, .ref (al (oM G) 0)]) (pc' := 25) h dX6_mixShop_22 rfl ml_X6_166 wc_X6_regularTells wi_X6_regularTells ⟨Nat.le_of_ble_eq_true rfl, Nat.le_of_ble_eq_true rfl⟩ bM_mo rfl rfl rfl rfl (Nat.le_of_ble_eq_true rfl) (fun l => c_X6_regularTells l p1 v2 st  _ _ hq3) rfl ?_
    refine k_i2l (pc' := 26) h dX6_mixShop_25 rfl ?_
    obtain ⟨q4, hq4, hf⟩ := bd_s hf
    refine k_callV (As := [.long q3.1.toInt64]) (rest := []) (rv := none) (st' := q4) (stk' := []) (pc' := 29) h dX6_mixShop_26 rfl ml_X6_280 wc_X6_mix wi_X6_mix ⟨Nat.le_of_ble_eq_true rfl, Nat.le_of_ble_eq_true rfl⟩ bM_mo rfl rfl rfl rfl (Nat.le_of_ble_eq_true rfl) (fun l => c_X6_mix l q3.1.toInt64 q3.2  _ hq4) rfl ?_
    refine k_iinc (lv' := [(0, .ref (al (oM G) 0)), (1, .int p1), (2, .int (v2 + (1 : Int32)))]) (pc' := 32) h dX6_mixShop_29 rfl 2 rfl (congrArg (fun z => v2 + z) ci_1) (Nat.le_of_ble_eq_true rfl) [1, 2, 0] rfl ?_
    refine k_goto (tgt := 12) h dX6_mixShop_32 rfl ?_
    refine k_sub (lv' := [(0, .ref (al (oM G) 0)), (1, .int p1), (2, .int (v2 + (1 : Int32)))]) [0, 1, 2] rfl ?_
    exact lp_o hf K
noncomputable def l_X6_mixShop_2  (v1 : Int32) (st : St) : Option ((Int32 × St) ⊕ (Int32 × St)) :=
  (if (st.1 0 10) ≤ v1 then (some (.inr (v1, st))) else ((iter (fun v : Int32 × St => l_X6_mixShop_12 v1 v.1 v.2) fuel ((0 : Int32), st)).bind (fun q5 => (some (.inl (v1 + (1 : Int32), q5.2))))))
set_option maxHeartbeats 4000000 in
theorem w_X6_mixShop_2 {G : GG} {X : Cx} (h : Ok X (oM G) cX6_mixShop RX6 3 (RM 4))    (n : Nat) (v1 : Int32) (st : St) (q : Int32 × St) (hq : iter (fun v : Int32 × St => l_X6_mixShop_2  v.1 v.2) n (v1, st) = some q) (kx : Wk X (oM G) 3 q.2 41 [(0, .ref (al (oM G) 0)), (1, .int q.1)] []) : Wk X (oM G) 3 st 2 [(0, .ref (al (oM G) 0)), (1, .int v1)] [] := by
  refine iter_rule (hd := (fun v : Int32 × St => Wk X (oM G) 3 v.2 2 [(0, .ref (al (oM G) 0)), (1, .int v.1)] [])) (ex := (fun v : Int32 × St => Wk X (oM G) 3 v.2 41 [(0, .ref (al (oM G) 0)), (1, .int v.1)] [])) ?_ n (v1, st) q hq kx
  rintro ⟨v1, st⟩ oo hbv K
  show Wk X (oM G) 3 st 2 [(0, .ref (al (oM G) 0)), (1, .int v1)] []
  have hf : l_X6_mixShop_2  v1 st = some oo := hbv
  unfold l_X6_mixShop_2 at hf
  refine k_iload_n (pc' := 3) h dX6_mixShop_2 rfl rfl 1 rfl ?_
  refine k_aload_n (pc' := 4) h dX6_mixShop_3 rfl rfl 0 rfl ?_
  refine k_get (v := .int (st.1 0 10)) (pc' := 7) h dX6_mixShop_4 rfl bM_mo fl_X6_135 rfl ?_
  refine k_icmp_ge (tgt := 41) (pc' := 10) h dX6_mixShop_7 rfl rfl (fun c1 => ?_) (fun c1 => ?_)
  · replace hf := if_t c1 hf
    refine k_sub (lv' := [(0, .ref (al (oM G) 0)), (1, .int v1)]) [0, 1] rfl ?_
    exact lp_o hf K
  · replace hf := if_f c1 hf
    refine k_iconst (pc' := 11) h dX6_mixShop_10 rfl ci_0 ?_
    refine k_istore_n (lv' := [(0, .ref (al (oM G) 0)), (1, .int v1), (2, .int (0 : Int32))]) (pc' := 12) h dX6_mixShop_11 rfl rfl (Nat.le_of_ble_eq_true rfl) [1, 2, 0] rfl ?_
    obtain ⟨q5, hq5, hf⟩ := bd_s hf
    refine w_X6_mixShop_12 h v1  fuel (0 : Int32) st q5 hq5 ?_
    refine k_iinc (lv' := [(0, .ref (al (oM G) 0)), (1, .int (v1 + (1 : Int32))), (2, .int q5.1)]) (pc' := 38) h dX6_mixShop_35 rfl 1 rfl (congrArg (fun z => v1 + z) ci_1) (Nat.le_of_ble_eq_true rfl) [1, 0, 2] rfl ?_
    refine k_goto (tgt := 2) h dX6_mixShop_38 rfl ?_
    refine k_sub (lv' := [(0, .ref (al (oM G) 0)), (1, .int (v1 + (1 : Int32)))]) [0, 1] rfl ?_
    exact lp_o hf K
noncomputable def l_X6_mixShop_43  (v1 : Int32) (st : St) : Option ((Int32 × St) ⊕ (Int32 × St)) :=
  (if (3 : Int32) ≤ v1 then (some (.inr (v1, st))) else (gd (inb v1 3) (if (st.1 16 v1.toNatClampNeg) = 0 then ((f_X6_mix (-1 : Int64) st).bind (fun q10 => (some (.inl (v1 + (1 : Int32), q10))))) else (gd (inb v1 3) ((f_X6_mix ((st.1 17 v1.toNatClampNeg).toInt64) st).bind (fun q12 => (some (.inl (v1 + (1 : Int32), q12)))))))))
set_option maxHeartbeats 4000000 in
theorem w_X6_mixShop_43 {G : GG} {X : Cx} (h : Ok X (oM G) cX6_mixShop RX6 3 (RM 4))    (n : Nat) (v1 : Int32) (st : St) (q : Int32 × St) (hq : iter (fun v : Int32 × St => l_X6_mixShop_43  v.1 v.2) n (v1, st) = some q) (kx : Wk X (oM G) 3 q.2 80 [(0, .ref (al (oM G) 0)), (1, .int q.1)] []) : Wk X (oM G) 3 st 43 [(0, .ref (al (oM G) 0)), (1, .int v1)] [] := by
  refine iter_rule (hd := (fun v : Int32 × St => Wk X (oM G) 3 v.2 43 [(0, .ref (al (oM G) 0)), (1, .int v.1)] [])) (ex := (fun v : Int32 × St => Wk X (oM G) 3 v.2 80 [(0, .ref (al (oM G) 0)), (1, .int v.1)] [])) ?_ n (v1, st) q hq kx
  rintro ⟨v1, st⟩ oo hbv K
  show Wk X (oM G) 3 st 43 [(0, .ref (al (oM G) 0)), (1, .int v1)] []
  have hf : l_X6_mixShop_43  v1 st = some oo := hbv
  unfold l_X6_mixShop_43 at hf
  refine k_iload_n (pc' := 44) h dX6_mixShop_43 rfl rfl 1 rfl ?_
  refine k_iconst (pc' := 45) h dX6_mixShop_44 rfl ci_3 ?_
  refine k_icmp_ge (tgt := 80) (pc' := 48) h dX6_mixShop_45 rfl rfl (fun c7 => ?_) (fun c7 => ?_)
  · replace hf := if_t c7 hf
    refine k_sub (lv' := [(0, .ref (al (oM G) 0)), (1, .int v1)]) [0, 1] rfl ?_
    exact lp_o hf K
  · replace hf := if_f c7 hf
    refine k_aload_n (pc' := 49) h dX6_mixShop_48 rfl rfl 0 rfl ?_
    refine k_aload_n (pc' := 50) h dX6_mixShop_49 rfl rfl 0 rfl ?_
    refine k_get (v := .ref (al (oM G) 16)) (pc' := 53) h dX6_mixShop_50 rfl bM_mo fl_X6_60 rfl ?_
    refine k_iload_n (pc' := 54) h dX6_mixShop_53 rfl rfl 1 rfl ?_
    have g8 := gd_1 hf
    replace hf := gd_2 hf
    refine k_zald (pc' := 55) h dX6_mixShop_54 rfl aM_16 g8 ?_
    refine k_if_eq (tgt := 68) (pc' := 58) h dX6_mixShop_55 rfl rfl (fun c9 => ?_) (fun c9 => ?_)
    · replace hf := if_t c9 hf
      refine k_ldc2 (pc' := 71) h dX6_mixShop_68 rfl cst_X6_284 ?_
      obtain ⟨q10, hq10, hf⟩ := bd_s hf
      refine k_callV (As := [.long (-1 : Int64)]) (rest := []) (rv := none) (st' := q10) (stk' := []) (pc' := 74) h dX6_mixShop_71 rfl ml_X6_280 wc_X6_mix wi_X6_mix ⟨Nat.le_of_ble_eq_true rfl, Nat.le_of_ble_eq_true rfl⟩ bM_mo rfl rfl rfl rfl (Nat.le_of_ble_eq_true rfl) (fun l => c_X6_mix l (-1 : Int64) st  _ hq10) rfl ?_
      refine k_iinc (lv' := [(0, .ref (al (oM G) 0)), (1, .int (v1 + (1 : Int32)))]) (pc' := 77) h dX6_mixShop_74 rfl 1 rfl (congrArg (fun z => v1 + z) ci_1) (Nat.le_of_ble_eq_true rfl) [1, 0] rfl ?_
      refine k_goto (tgt := 43) h dX6_mixShop_77 rfl ?_
      refine k_sub (lv' := [(0, .ref (al (oM G) 0)), (1, .int (v1 + (1 : Int32)))]) [0, 1] rfl ?_
      exact lp_o hf K
    · replace hf := if_f c9 hf
      refine k_aload_n (pc' := 59) h dX6_mixShop_58 rfl rfl 0 rfl ?_
      refine k_get (v := .ref (al (oM G) 17)) (pc' := 62) h dX6_mixShop_59 rfl bM_mo fl_X6_64 rfl ?_
      refine k_iload_n (pc' := 63) h dX6_mixShop_62 rfl rfl 1 rfl ?_
      have g11 := gd_1 hf
      replace hf := gd_2 hf
      refine k_iald (pc' := 64) h dX6_mixShop_63 rfl aM_17 g11 ?_
      refine k_i2l (pc' := 65) h dX6_mixShop_64 rfl ?_
      refine k_goto (tgt := 71) h dX6_mixShop_65 rfl ?_
      obtain ⟨q12, hq12, hf⟩ := bd_s hf
      refine k_callV (As := [.long ((st.1 17 v1.toNatClampNeg).toInt64)]) (rest := []) (rv := none) (st' := q12) (stk' := []) (pc' := 74) h dX6_mixShop_71 rfl ml_X6_280 wc_X6_mix wi_X6_mix ⟨Nat.le_of_ble_eq_true rfl, Nat.le_of_ble_eq_true rfl⟩ bM_mo rfl rfl rfl rfl (Nat.le_of_ble_eq_true rfl) (fun l => c_X6_mix l ((st.1 17 v1.toNatClampNeg).toInt64) st  _ hq12) rfl ?_
      refine k_iinc (lv' := [(0, .ref (al (oM G) 0)), (1, .int (v1 + (1 : Int32)))]) (pc' := 77) h dX6_mixShop_74 rfl 1 rfl (congrArg (fun z => v1 + z) ci_1) (Nat.le_of_ble_eq_true rfl) [1, 0] rfl ?_
      refine k_goto (tgt := 43) h dX6_mixShop_77 rfl ?_
      refine k_sub (lv' := [(0, .ref (al (oM G) 0)), (1, .int (v1 + (1 : Int32)))]) [0, 1] rfl ?_
      exact lp_o hf K
noncomputable def f_X6_mixShop  (st : St) : Option (St) :=
  ((iter (fun v : Int32 × St => l_X6_mixShop_2  v.1 v.2) fuel ((0 : Int32), st)).bind (fun q6 => ((iter (fun v : Int32 × St => l_X6_mixShop_43  v.1 v.2) fuel ((0 : Int32), q6.2)).bind (fun q13 => (some q13.2)))))
set_option maxHeartbeats 4000000 in
theorem c_X6_mixShop {G : GG} (l : Launch)  (st : St)  (st' : St) (hf : f_X6_mixShop  st = some st') : MM l yX6_mixShop cX6_mixShop 3 none 4 (oM G) [.ref (al (oM G) 0)] st none st' := by
  refine mk_MM (by decide +kernel) (Nat.le_of_ble_eq_true rfl) (fun X h r => ?_)
  refine k_sub (lv' := [(0, .ref (al (oM G) 0))]) [0] rfl ?_
  unfold f_X6_mixShop at hf
  refine k_iconst (pc' := 1) h dX6_mixShop_0 rfl ci_0 ?_
  refine k_istore_n (lv' := [(0, .ref (al (oM G) 0)), (1, .int (0 : Int32))]) (pc' := 2) h dX6_mixShop_1 rfl rfl (Nat.le_of_ble_eq_true rfl) [1, 0] rfl ?_
  obtain ⟨q6, hq6, hf⟩ := bd_s hf
  refine w_X6_mixShop_2 h   fuel (0 : Int32) st q6 hq6 ?_
  refine k_iconst (pc' := 42) h dX6_mixShop_41 rfl ci_0 ?_
  refine k_istore_n (lv' := [(0, .ref (al (oM G) 0)), (1, .int (0 : Int32))]) (pc' := 43) h dX6_mixShop_42 rfl rfl (Nat.le_of_ble_eq_true rfl) [1, 0] rfl ?_
  obtain ⟨q13, hq13, hf⟩ := bd_s hf
  refine w_X6_mixShop_43 h   fuel (0 : Int32) q6.2 q13 hq13 ?_
  exact k_vret h r dX6_mixShop_80 (lf_v hf)
noncomputable def l_X6_digest_9  (v1 : Int32) (st : St) : Option ((Int32 × St) ⊕ (Int32 × St)) :=
  (if (10 : Int32) ≤ v1 then (some (.inr (v1, st))) else ((f_X6_counted v1 st).bind (fun q3 => ((f_X6_mix q3.1.toInt64 q3.2).bind (fun q4 => (some (.inl (v1 + (1 : Int32), q4))))))))
set_option maxHeartbeats 4000000 in
theorem w_X6_digest_9 {G : GG} {X : Cx} (h : Ok X (oM G) cX6_digest RX6 3 (RM 5))    (n : Nat) (v1 : Int32) (st : St) (q : Int32 × St) (hq : iter (fun v : Int32 × St => l_X6_digest_9  v.1 v.2) n (v1, st) = some q) (kx : Wk X (oM G) 3 q.2 31 [(0, .ref (al (oM G) 0)), (1, .int q.1)] []) : Wk X (oM G) 3 st 9 [(0, .ref (al (oM G) 0)), (1, .int v1)] [] := by
  refine iter_rule (hd := (fun v : Int32 × St => Wk X (oM G) 3 v.2 9 [(0, .ref (al (oM G) 0)), (1, .int v.1)] [])) (ex := (fun v : Int32 × St => Wk X (oM G) 3 v.2 31 [(0, .ref (al (oM G) 0)), (1, .int v.1)] [])) ?_ n (v1, st) q hq kx
  rintro ⟨v1, st⟩ oo hbv K
  show Wk X (oM G) 3 st 9 [(0, .ref (al (oM G) 0)), (1, .int v1)] []
  have hf : l_X6_digest_9  v1 st = some oo := hbv
  unfold l_X6_digest_9 at hf
  refine k_iload_n (pc' := 10) h dX6_digest_9 rfl rfl 1 rfl ?_
  refine k_bipush (pc' := 12) h dX6_digest_10 rfl cb_10 ?_
  refine k_icmp_ge (tgt := 31) (pc' := 15) h dX6_digest_12 rfl rfl (fun c2 => ?_) (fun c2 => ?_)
  · replace hf := if_t c2 hf
    refine k_sub (lv' := [(0, .ref (al (oM G) 0)), (1, .int v1)]) [0, 1] rfl ?_
    exact lp_o hf K
  · replace hf := if_f c2 hf
    refine k_aload_n (pc' := 16) h dX6_digest_15 rfl rfl 0 rfl ?_
    refine k_aload_n (pc' := 17) h dX6_digest_16 rfl rfl 0 rfl ?_
    refine k_iload_n (pc' := 18) h dX6_digest_17 rfl rfl 1 rfl ?_
    obtain ⟨q3, hq3, hf⟩ := bd_s hf
    refine k_callV (As := [.int v1]) (rest := [.ref (al (oM G) 0)]) (rv := some (.int q3.1)) (st' := q3.2) (stk' := [.int q3.1, .ref (al (oM G) 0)]) (pc' := 21) h dX6_digest_18 rfl ml_X6_272 wc_X6_counted wi_X6_counted ⟨Nat.le_of_ble_eq_true rfl, Nat.le_of_ble_eq_true rfl⟩ bM_mo rfl rfl rfl rfl (Nat.le_of_ble_eq_true rfl) (fun l => c_X6_counted l v1 st  _ _ hq3) rfl ?_
    refine k_i2l (pc' := 22) h dX6_digest_21 rfl ?_
    obtain ⟨q4, hq4, hf⟩ := bd_s hf
    refine k_callV (As := [.long q3.1.toInt64]) (rest := []) (rv := none) (st' := q4) (stk' := []) (pc' := 25) h dX6_digest_22 rfl ml_X6_280 wc_X6_mix wi_X6_mix ⟨Nat.le_of_ble_eq_true rfl, Nat.le_of_ble_eq_true rfl⟩ bM_mo rfl rfl rfl rfl (Nat.le_of_ble_eq_true rfl) (fun l => c_X6_mix l q3.1.toInt64 q3.2  _ hq4) rfl ?_
    refine k_iinc (lv' := [(0, .ref (al (oM G) 0)), (1, .int (v1 + (1 : Int32)))]) (pc' := 28) h dX6_digest_25 rfl 1 rfl (congrArg (fun z => v1 + z) ci_1) (Nat.le_of_ble_eq_true rfl) [1, 0] rfl ?_
    refine k_goto (tgt := 9) h dX6_digest_28 rfl ?_
    refine k_sub (lv' := [(0, .ref (al (oM G) 0)), (1, .int (v1 + (1 : Int32)))]) [0, 1] rfl ?_
    exact lp_o hf K
noncomputable def l_X6_digest_56 (p1 : Int32) (v2 : Int32) (st : St) : Option ((Int32 × St) ⊕ (Int32 × St)) :=
  (gd (inb p1 6) (if (st.1 2 p1.toNatClampNeg) ≤ v2 then (some (.inr (v2, st))) else ((f_X6_rowAt p1 v2 st).bind (fun q12 => ((f_X6_mix q12.1.toInt64 q12.2).bind (fun q13 => (some (.inl (v2 + (1 : Int32), q13)))))))))
set_option maxHeartbeats 4000000 in
theorem w_X6_digest_56 {G : GG} {X : Cx} (h : Ok X (oM G) cX6_digest RX6 3 (RM 5))  (p1 : Int32)  (n : Nat) (v2 : Int32) (st : St) (q : Int32 × St) (hq : iter (fun v : Int32 × St => l_X6_digest_56 p1 v.1 v.2) n (v2, st) = some q) (kx : Wk X (oM G) 3 q.2 83 [(0, .ref (al (oM G) 0)), (1, .int p1), (2, .int q.1)] []) : Wk X (oM G) 3 st 56 [(0, .ref (al (oM G) 0)), (1, .int p1), (2, .int v2)] [] := by
  refine iter_rule (hd := (fun v : Int32 × St => Wk X (oM G) 3 v.2 56 [(0, .ref (al (oM G) 0)), (1, .int p1), (2, .int v.1)] [])) (ex := (fun v : Int32 × St => Wk X (oM G) 3 v.2 83 [(0, .ref (al (oM G) 0)), (1, .int p1), (2, .int v.1)] [])) ?_ n (v2, st) q hq kx
  rintro ⟨v2, st⟩ oo hbv K
  show Wk X (oM G) 3 st 56 [(0, .ref (al (oM G) 0)), (1, .int p1), (2, .int v2)] []
  have hf : l_X6_digest_56 p1 v2 st = some oo := hbv
  unfold l_X6_digest_56 at hf
  refine k_iload_n (pc' := 57) h dX6_digest_56 rfl rfl 2 rfl ?_
  refine k_aload_n (pc' := 58) h dX6_digest_57 rfl rfl 0 rfl ?_
  refine k_get (v := .ref (al (oM G) 2)) (pc' := 61) h dX6_digest_58 rfl bM_mo fl_X6_17 rfl ?_
  refine k_iload_n (pc' := 62) h dX6_digest_61 rfl rfl 1 rfl ?_
  have g10 := gd_1 hf
  replace hf := gd_2 hf
  refine k_iald (pc' := 63) h dX6_digest_62 rfl aM_2 g10 ?_
  refine k_icmp_ge (tgt := 83) (pc' := 66) h dX6_digest_63 rfl rfl (fun c11 => ?_) (fun c11 => ?_)
  · replace hf := if_t c11 hf
    refine k_sub (lv' := [(0, .ref (al (oM G) 0)), (1, .int p1), (2, .int v2)]) [0, 1, 2] rfl ?_
    exact lp_o hf K
  · replace hf := if_f c11 hf
    refine k_aload_n (pc' := 67) h dX6_digest_66 rfl rfl 0 rfl ?_
    refine k_aload_n (pc' := 68) h dX6_digest_67 rfl rfl 0 rfl ?_
    refine k_iload_n (pc' := 69) h dX6_digest_68 rfl rfl 1 rfl ?_
    refine k_iload_n (pc' := 70) h dX6_digest_69 rfl rfl 2 rfl ?_
    obtain ⟨q12, hq12, hf⟩ := bd_s hf
    refine k_callV (As := [.int p1, .int v2]) (rest := [.ref (al (oM G) 0)]) (rv := some (.int q12.1)) (st' := q12.2) (stk' := [.int q12.1, .ref (al (oM G) 0)]) (pc' := 73) h dX6_digest_70 rfl ml_X6_101 wc_X6_rowAt wi_X6_rowAt ⟨Nat.le_of_ble_eq_true rfl, Nat.le_of_ble_eq_true rfl⟩ bM_mo rfl rfl rfl rfl (Nat.le_of_ble_eq_true rfl) (fun l => c_X6_rowAt l p1 v2 st  _ _ hq12) rfl ?_
    refine k_i2l (pc' := 74) h dX6_digest_73 rfl ?_
    obtain ⟨q13, hq13, hf⟩ := bd_s hf
    refine k_callV (As := [.long q12.1.toInt64]) (rest := []) (rv := none) (st' := q13) (stk' := []) (pc' := 77) h dX6_digest_74 rfl ml_X6_280 wc_X6_mix wi_X6_mix ⟨Nat.le_of_ble_eq_true rfl, Nat.le_of_ble_eq_true rfl⟩ bM_mo rfl rfl rfl rfl (Nat.le_of_ble_eq_true rfl) (fun l => c_X6_mix l q12.1.toInt64 q12.2  _ hq13) rfl ?_
    refine k_iinc (lv' := [(0, .ref (al (oM G) 0)), (1, .int p1), (2, .int (v2 + (1 : Int32)))]) (pc' := 80) h dX6_digest_77 rfl 2 rfl (congrArg (fun z => v2 + z) ci_1) (Nat.le_of_ble_eq_true rfl) [1, 2, 0] rfl ?_
    refine k_goto (tgt := 56) h dX6_digest_80 rfl ?_
    refine k_sub (lv' := [(0, .ref (al (oM G) 0)), (1, .int p1), (2, .int (v2 + (1 : Int32)))]) [0, 1, 2] rfl ?_
    exact lp_o hf K
noncomputable def l_X6_digest_37  (v1 : Int32) (st : St) : Option ((Int32 × St) ⊕ (Int32 × St)) :=
  (if (6 : Int32) ≤ v1 then (some (.inr (v1, st))) else (gd (inb v1 6) ((f_X6_mix ((st.1 2 v1.toNatClampNeg).toInt64) st).bind (fun q9 => ((iter (fun v : Int32 × St => l_X6_digest_56 v1 v.1 v.2) fuel ((0 : Int32), q9)).bind (fun q14 => (some (.inl (v1 + (1 : Int32), q14.2)))))))))
set_option maxHeartbeats 4000000 in
theorem w_X6_digest_37 {G : GG} {X : Cx} (h : Ok X (oM G) cX6_digest RX6 3 (RM 5))    (n : Nat) (v1 : Int32) (st : St) (q : Int32 × St) (hq : iter (fun v : Int32 × St => l_X6_digest_37  v.1 v.2) n (v1, st) = some q) (kx : Wk X (oM G) 3 q.2 89 [(0, .ref (al (oM G) 0)), (1, .int q.1)] []) : Wk X (oM G) 3 st 37 [(0, .ref (al (oM G) 0)), (1, .int v1)] [] := by
  refine iter_rule (hd := (fun v : Int32 × St => Wk X (oM G) 3 v.2 37 [(0, .ref (al (oM G) 0)), (1, .int v.1)] [])) (ex := (fun v : Int32 × St => Wk X (oM G) 3 v.2 89 [(0, .ref (al (oM G) 0)), (1, .int v.1)] [])) ?_ n (v1, st) q hq kx
  rintro ⟨v1, st⟩ oo hbv K
  show Wk X (oM G) 3 st 37 [(0, .ref (al (oM G) 0)), (1, .int v1)] []
  have hf : l_X6_digest_37  v1 st = some oo := hbv
  unfold l_X6_digest_37 at hf
  refine k_iload_n (pc' := 38) h dX6_digest_37 rfl rfl 1 rfl ?_
  refine k_bipush (pc' := 40) h dX6_digest_38 rfl cb_6 ?_
  refine k_icmp_ge (tgt := 89) (pc' := 43) h dX6_digest_40 rfl rfl (fun c7 => ?_) (fun c7 => ?_)
  · replace hf := if_t c7 hf
    refine k_sub (lv' := [(0, .ref (al (oM G) 0)), (1, .int v1)]) [0, 1] rfl ?_
    exact lp_o hf K
  · replace hf := if_f c7 hf
    refine k_aload_n (pc' := 44) h dX6_digest_43 rfl rfl 0 rfl ?_
    refine k_aload_n (pc' := 45) h dX6_digest_44 rfl rfl 0 rfl ?_
    refine k_get (v := .ref (al (oM G) 2)) (pc' := 48) h dX6_digest_45 rfl bM_mo fl_X6_17 rfl ?_
    refine k_iload_n (pc' := 49) h dX6_digest_48 rfl rfl 1 rfl ?_
    have g8 := gd_1 hf
    replace hf := gd_2 hf
    refine k_iald (pc' := 50) h dX6_digest_49 rfl aM_2 g8 ?_
    refine k_i2l (pc' := 51) h dX6_digest_50 rfl ?_
    obtain ⟨q9, hq9, hf⟩ := bd_s hf
    refine k_callV (As := [.long ((st.1 2 v1.toNatClampNeg).toInt64)]) (rest := []) (rv := none) (st' := q9) (stk' := []) (pc' := 54) h dX6_digest_51 rfl ml_X6_280 wc_X6_mix wi_X6_mix ⟨Nat.le_of_ble_eq_true rfl, Nat.le_of_ble_eq_true rfl⟩ bM_mo rfl rfl rfl rfl (Nat.le_of_ble_eq_true rfl) (fun l => c_X6_mix l ((st.1 2 v1.toNatClampNeg).toInt64) st  _ hq9) rfl ?_
    refine k_iconst (pc' := 55) h dX6_digest_54 rfl ci_0 ?_
    refine k_istore_n (lv' := [(0, .ref (al (oM G) 0)), (1, .int v1), (2, .int (0 : Int32))]) (pc' := 56) h dX6_digest_55 rfl rfl (Nat.le_of_ble_eq_true rfl) [1, 2, 0] rfl ?_
    obtain ⟨q14, hq14, hf⟩ := bd_s hf
    refine w_X6_digest_56 h v1  fuel (0 : Int32) q9 q14 hq14 ?_
    refine k_iinc (lv' := [(0, .ref (al (oM G) 0)), (1, .int (v1 + (1 : Int32))), (2, .int q14.1)]) (pc' := 86) h dX6_digest_83 rfl 1 rfl (congrArg (fun z => v1 + z) ci_1) (Nat.le_of_ble_eq_true rfl) [1, 0, 2] rfl ?_
    refine k_goto (tgt := 37) h dX6_digest_86 rfl ?_
    refine k_sub (lv' := [(0, .ref (al (oM G) 0)), (1, .int (v1 + (1 : Int32)))]) [0, 1] rfl ?_
    exact lp_o hf K
noncomputable def l_X6_digest_109 (p1 : Int32) (v2 : Int32) (st : St) : Option ((Int32 × St) ⊕ (Int32 × St)) :=
  (gd (inb p1 4) (if (st.1 5 p1.toNatClampNeg) ≤ v2 then (some (.inr (v2, st))) else ((f_X6_byteAt p1 v2 st).bind (fun q21 => ((f_X6_mix q21.1.toInt64 q21.2).bind (fun q22 => (some (.inl (v2 + (1 : Int32), q22)))))))))
set_option maxHeartbeats 4000000 in
theorem w_X6_digest_109 {G : GG} {X : Cx} (h : Ok X (oM G) cX6_digest RX6 3 (RM 5))  (p1 : Int32)  (n : Nat) (v2 : Int32) (st : St) (q : Int32 × St) (hq : iter (fun v : Int32 × St => l_X6_digest_109 p1 v.1 v.2) n (v2, st) = some q) (kx : Wk X (oM G) 3 q.2 136 [(0, .ref (al (oM G) 0)), (1, .int p1), (2, .int q.1)] []) : Wk X (oM G) 3 st 109 [(0, .ref (al (oM G) 0)), (1, .int p1), (2, .int v2)] [] := by
  refine iter_rule (hd := (fun v : Int32 × St => Wk X (oM G) 3 v.2 109 [(0, .ref (al (oM G) 0)), (1, .int p1), (2, .int v.1)] [])) (ex := (fun v : Int32 × St => Wk X (oM G) 3 v.2 136 [(0, .ref (al (oM G) 0)), (1, .int p1), (2, .int v.1)] [])) ?_ n (v2, st) q hq kx
  rintro ⟨v2, st⟩ oo hbv K
  show Wk X (oM G) 3 st 109 [(0, .ref (al (oM G) 0)), (1, .int p1), (2, .int v2)] []
  have hf : l_X6_digest_109 p1 v2 st = some oo := hbv
  unfold l_X6_digest_109 at hf
  refine k_iload_n (pc' := 110) h dX6_digest_109 rfl rfl 2 rfl ?_
  refine k_aload_n (pc' := 111) h dX6_digest_110 rfl rfl 0 rfl ?_
  refine k_get (v := .ref (al (oM G) 5)) (pc' := 114) h dX6_digest_111 rfl bM_mo fl_X6_26 rfl ?_
  refine k_iload_n (pc' := 115) h dX6_digest_114 rfl rfl 1 rfl ?_
  have g19 := gd_1 hf
  replace hf := gd_2 hf
  refine k_iald (pc' := 116) h dX6_digest_115 rfl aM_5 g19 ?_
  refine k_icmp_ge (tgt := 136) (pc' := 119) h dX6_digest_116 rfl rfl (fun c20 => ?_) (fun c20 => ?_)
  · replace hf := if_t c20 hf
    refine k_sub (lv' := [(0, .ref (al (oM G) 0)), (1, .int p1), (2, .int v2)]) [0, 1, 2] rfl ?_
    exact lp_o hf K
  · replace hf := if_f c20 hf
    refine k_aload_n (pc' := 120) h dX6_digest_119 rfl rfl 0 rfl ?_
    refine k_aload_n (pc' := 121) h dX6_digest_120 rfl rfl 0 rfl ?_
    refine k_iload_n (pc' := 122) h dX6_digest_121 rfl rfl 1 rfl ?_
    refine k_iload_n (pc' := 123) h dX6_digest_122 rfl rfl 2 rfl ?_
    obtain ⟨q21, hq21, hf⟩ := bd_s hf
    refine k_callV (As := [.int p1, .int v2]) (rest := [.ref (al (oM G) 0)]) (rv := some (.int q21.1)) (st' := q21.2) (stk' := [.int q21.1, .ref (al (oM G) 0)]) (pc' := 126) h dX6_digest_123 rfl ml_X6_114 wc_X6_byteAt wi_X6_byteAt ⟨Nat.le_of_ble_eq_true rfl, Nat.le_of_ble_eq_true rfl⟩ bM_mo rfl rfl rfl rfl (Nat.le_of_ble_eq_true rfl) (fun l => c_X6_byteAt l p1 v2 st  _ _ hq21) rfl ?_
    refine k_i2l (pc' := 127) h dX6_digest_126 rfl ?_
    obtain ⟨q22, hq22, hf⟩ := bd_s hf
    refine k_callV (As := [.long q21.1.toInt64]) (rest := []) (rv := none) (st' := q22) (stk' := []) (pc' := 130) h dX6_digest_127 rfl ml_X6_280 wc_X6_mix wi_X6_mix ⟨Nat.le_of_ble_eq_true rfl, Nat.le_of_ble_eq_true rfl⟩ bM_mo rfl rfl rfl rfl (Nat.le_of_ble_eq_true rfl) (fun l => c_X6_mix l q21.1.toInt64 q21.2  _ hq22) rfl ?_
    refine k_iinc (lv' := [(0, .ref (al (oM G) 0)), (1, .int p1), (2, .int (v2 + (1 : Int32)))]) (pc' := 133) h dX6_digest_130 rfl 2 rfl (congrArg (fun z => v2 + z) ci_1) (Nat.le_of_ble_eq_true rfl) [1, 2, 0] rfl ?_
    refine k_goto (tgt := 109) h dX6_digest_133 rfl ?_
    refine k_sub (lv' := [(0, .ref (al (oM G) 0)), (1, .int p1), (2, .int (v2 + (1 : Int32)))]) [0, 1, 2] rfl ?_
    exact lp_o hf K
noncomputable def l_X6_digest_91  (v1 : Int32) (st : St) : Option ((Int32 × St) ⊕ (Int32 × St)) :=
  (if (4 : Int32) ≤ v1 then (some (.inr (v1, st))) else (gd (inb v1 4) ((f_X6_mix ((st.1 5 v1.toNatClampNeg).toInt64) st).bind (fun q18 => ((iter (fun v : Int32 × St => l_X6_digest_109 v1 v.1 v.2) fuel ((0 : Int32), q18)).bind (fun q23 => (some (.inl (v1 + (1 : Int32), q23.2)))))))))
set_option maxHeartbeats 4000000 in
theorem w_X6_digest_91 {G : GG} {X : Cx} (h : Ok X (oM G) cX6_digest RX6 3 (RM 5))    (n : Nat) (v1 : Int32) (st : St) (q : Int32 × St) (hq : iter (fun v : Int32 × St => l_X6_digest_91  v.1 v.2) n (v1, st) = some q) (kx : Wk X (oM G) 3 q.2 142 [(0, .ref (al (oM G) 0)), (1, .int q.1)] []) : Wk X (oM G) 3 st 91 [(0, .ref (al (oM G) 0)), (1, .int v1)] [] := by
  refine iter_rule (hd := (fun v : Int32 × St => Wk X (oM G) 3 v.2 91 [(0, .ref (al (oM G) 0)), (1, .int v.1)] [])) (ex := (fun v : Int32 × St => Wk X (oM G) 3 v.2 142 [(0, .ref (al (oM G) 0)), (1, .int v.1)] [])) ?_ n (v1, st) q hq kx
  rintro ⟨v1, st⟩ oo hbv K
  show Wk X (oM G) 3 st 91 [(0, .ref (al (oM G) 0)), (1, .int v1)] []
  have hf : l_X6_digest_91  v1 st = some oo := hbv
  unfold l_X6_digest_91 at hf
  refine k_iload_n (pc' := 92) h dX6_digest_91 rfl rfl 1 rfl ?_
  refine k_iconst (pc' := 93) h dX6_digest_92 rfl ci_4 ?_
  refine k_icmp_ge (tgt := 142) (pc' := 96) h dX6_digest_93 rfl rfl (fun c16 => ?_) (fun c16 => ?_)
  · replace hf := if_t c16 hf
    refine k_sub (lv' := [(0, .ref (al (oM G) 0)), (1, .int v1)]) [0, 1] rfl ?_
    exact lp_o hf K
  · replace hf := if_f c16 hf
    refine k_aload_n (pc' := 97) h dX6_digest_96 rfl rfl 0 rfl ?_
    refine k_aload_n (pc' := 98) h dX6_digest_97 rfl rfl 0 rfl ?_
    refine k_get (v := .ref (al (oM G) 5)) (pc' := 101) h dX6_digest_98 rfl bM_mo fl_X6_26 rfl ?_
    refine k_iload_n (pc' := 102) h dX6_digest_101 rfl rfl 1 rfl ?_
    have g17 := gd_1 hf
    replace hf := gd_2 hf
    refine k_iald (pc' := 103) h dX6_digest_102 rfl aM_5 g17 ?_
    refine k_i2l (pc' := 104) h dX6_digest_103 rfl ?_
    obtain ⟨q18, hq18, hf⟩ := bd_s hf
    refine k_callV (As := [.long ((st.1 5 v1.toNatClampNeg).toInt64)]) (rest := []) (rv := none) (st' := q18) (stk' := []) (pc' := 107) h dX6_digest_104 rfl ml_X6_280 wc_X6_mix wi_X6_mix ⟨Nat.le_of_ble_eq_true rfl, Nat.le_of_ble_eq_true rfl⟩ bM_mo rfl rfl rfl rfl (Nat.le_of_ble_eq_true rfl) (fun l => c_X6_mix l ((st.1 5 v1.toNatClampNeg).toInt64) st  _ hq18) rfl ?_
    refine k_iconst (pc' := 108) h dX6_digest_107 rfl ci_0 ?_
    refine k_istore_n (lv' := [(0, .ref (al (oM G) 0)), (1, .int v1), (2, .int (0 : Int32))]) (pc' := 109) h dX6_digest_108 rfl rfl (Nat.le_of_ble_eq_true rfl) [1, 2, 0] rfl ?_
    obtain ⟨q23, hq23, hf⟩ := bd_s hf
    refine w_X6_digest_109 h v1  fuel (0 : Int32) q18 q23 hq23 ?_
    refine k_iinc (lv' := [(0, .ref (al (oM G) 0)), (1, .int (v1 + (1 : Int32))), (2, .int q23.1)]) (pc' := 139) h dX6_digest_136 rfl 1 rfl (congrArg (fun z => v1 + z) ci_1) (Nat.le_of_ble_eq_true rfl) [1, 0, 2] rfl ?_
    refine k_goto (tgt := 91) h dX6_digest_139 rfl ?_
    refine k_sub (lv' := [(0, .ref (al (oM G) 0)), (1, .int (v1 + (1 : Int32)))]) [0, 1] rfl ?_
    exact lp_o hf K
noncomputable def f_X6_digest  (st : St) : Option (Int64 × St) :=
  (ls (sL st 2 (17 : Int64)) (fun s1 => ((iter (fun v : Int32 × St => l_X6_digest_9  v.1 v.2) fuel ((0 : Int32), s1)).bind (fun q5 => ((f_X6_mixShop  q5.2).bind (fun q6 => ((iter (fun v : Int32 × St => l_X6_digest_37  v.1 v.2) fuel ((0 : Int32), q6)).bind (fun q15 => ((iter (fun v : Int32 × St => l_X6_digest_91  v.1 v.2) fuel ((0 : Int32), q15.2)).bind (fun q24 => (some (q24.2.2 2, q24.2))))))))))))
set_option maxHeartbeats 4000000 in
theorem c_X6_digest {G : GG} (l : Launch)  (st : St)  (rr : Int64) (st' : St) (hf : f_X6_digest  st = some (rr, st')) : MM l yX6_digest cX6_digest 3 (some .long) 5 (oM G) [.ref (al (oM G) 0)] st (some (.long rr)) st' := by
  refine mk_MM (by decide +kernel) (Nat.le_of_ble_eq_true rfl) (fun X h r => ?_)
  refine k_sub (lv' := [(0, .ref (al (oM G) 0))]) [0] rfl ?_
  unfold f_X6_digest at hf
  refine k_aload_n (pc' := 1) h dX6_digest_0 rfl rfl 0 rfl ?_
  refine k_ldc2 (pc' := 4) h dX6_digest_1 rfl cst_X6_286 ?_
  refine k_putl (pc' := 7) h dX6_digest_4 rfl bM_mo nM fp_X6_277 sl_mo_32 sj_mo_32 ?_
  obtain ⟨s1, hs1, hf⟩ := ls_s hf
  refine k_st hs1 ?_
  refine k_iconst (pc' := 8) h dX6_digest_7 rfl ci_0 ?_
  refine k_istore_n (lv' := [(0, .ref (al (oM G) 0)), (1, .int (0 : Int32))]) (pc' := 9) h dX6_digest_8 rfl rfl (Nat.le_of_ble_eq_true rfl) [1, 0] rfl ?_
  obtain ⟨q5, hq5, hf⟩ := bd_s hf
  refine w_X6_digest_9 h   fuel (0 : Int32) s1 q5 hq5 ?_
  refine k_aload_n (pc' := 32) h dX6_digest_31 rfl rfl 0 rfl ?_
  obtain ⟨q6, hq6, hf⟩ := bd_s hf
  refine k_callV (As := []) (rest := []) (rv := none) (st' := q6) (stk' := []) (pc' := 35) h dX6_digest_32 rfl ml_X6_288 wc_X6_mixShop wi_X6_mixShop ⟨Nat.le_of_ble_eq_true rfl, Nat.le_of_ble_eq_true rfl⟩ bM_mo rfl rfl rfl rfl (Nat.le_of_ble_eq_true rfl) (fun l => c_X6_mixShop l  q5.2  _ hq6) rfl ?_
  refine k_iconst (pc' := 36) h dX6_digest_35 rfl ci_0 ?_
  refine k_istore_n (lv' := [(0, .ref (al (oM G) 0)), (1, .int (0 : Int32))]) (pc' := 37) h dX6_digest_36 rfl rfl (Nat.le_of_ble_eq_true rfl) [1, 0] rfl ?_
  obtain ⟨q15, hq15, hf⟩ := bd_s hf
  refine w_X6_digest_37 h   fuel (0 : Int32) q6 q15 hq15 ?_
  refine k_iconst (pc' := 90) h dX6_digest_89 rfl ci_0 ?_
  refine k_istore_n (lv' := [(0, .ref (al (oM G) 0)), (1, .int (0 : Int32))]) (pc' := 91) h dX6_digest_90 rfl rfl (Nat.le_of_ble_eq_true rfl) [1, 0] rfl ?_
  obtain ⟨q24, hq24, hf⟩ := bd_s hf
  refine w_X6_digest_91 h   fuel (0 : Int32) q15.2 q24 hq24 ?_
  refine k_aload_n (pc' := 143) h dX6_digest_142 rfl rfl 0 rfl ?_
  refine k_get (v := .long (q24.2.2 2)) (pc' := 146) h dX6_digest_143 rfl bM_mo fl_X6_277 rfl ?_
  exact k_lret h r dX6_digest_146 (lf_l hf)
