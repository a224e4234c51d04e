noncomputable def f_X5_finding  (st : St) : Option (Int32 × St) :=
  (some (st.1 0 8, st))
set_option maxHeartbeats 4000000 in
theorem c_X5_finding {G : GG} (l : Launch)  (st : St)  (rr : Int32) (st' : St) (hf : f_X5_finding  st = some (rr, st')) : MM l yX5_finding cX5_finding 1 (some .int) 0 (oC G) [.ref (al (oC G) 0)] st (some (.int rr)) st' := by
  refine mk_MM (by decide +kernel) (Nat.le_of_ble_eq_true rfl) (fun X h r => ?_)
  refine k_sub (lv' := [(0, .ref (al (oC G) 0))]) [0] rfl ?_
  unfold f_X5_finding at hf
  refine k_aload_n (pc' := 1) h dX5_finding_0 rfl rfl 0 rfl ?_
  refine k_get (v := .int (st.1 0 8)) (pc' := 4) h dX5_finding_1 rfl bC_us fl_X5_49 rfl ?_
  exact k_iret h r dX5_finding_4 (lf_i hf)
noncomputable def f_X5_findings (x0 : Int32) (st : St) : Option (Int32 × St) :=
  (if x0 < (1 : Int32) then (some ((-1 : Int32), st)) else (if x0 ≤ (5 : Int32) then (gd (inb x0 6) (some (st.1 43 x0.toNatClampNeg, st))) else (some ((-1 : Int32), st))))
set_option maxHeartbeats 4000000 in
theorem c_X5_findings {G : GG} (l : Launch) (x0 : Int32) (st : St)  (rr : Int32) (st' : St) (hf : f_X5_findings x0 st = some (rr, st')) : MM l yX5_findings cX5_findings 2 (some .int) 0 (oC G) [.ref (al (oC G) 0), .int x0] st (some (.int rr)) st' := by
  refine mk_MM (by decide +kernel) (Nat.le_of_ble_eq_true rfl) (fun X h r => ?_)
  refine k_sub (lv' := [(0, .ref (al (oC G) 0)), (1, .int x0)]) [0, 1] rfl ?_
  unfold f_X5_findings at hf
  refine k_iload_n (pc' := 1) h dX5_findings_0 rfl rfl 1 rfl ?_
  refine k_iconst (pc' := 2) h dX5_findings_1 rfl ci_1 ?_
  refine k_icmp_lt (tgt := 10) (pc' := 5) h dX5_findings_2 rfl rfl (fun c1 => ?_) (fun c1 => ?_)
  · replace hf := if_t c1 hf
    refine k_iconst (pc' := 11) h dX5_findings_10 rfl ci_m1 ?_
    exact k_iret h r dX5_findings_11 (lf_i hf)
  · replace hf := if_f c1 hf
    refine k_iload_n (pc' := 6) h dX5_findings_5 rfl rfl 1 rfl ?_
    refine k_iconst (pc' := 7) h dX5_findings_6 rfl ci_5 ?_
    refine k_icmp_le (tgt := 12) (pc' := 10) h dX5_findings_7 rfl rfl (fun c2 => ?_) (fun c2 => ?_)
    · replace hf := if_t c2 hf
      refine k_aload_n (pc' := 13) h dX5_findings_12 rfl rfl 0 rfl ?_
      refine k_get (v := .ref (al (oC G) 43)) (pc' := 16) h dX5_findings_13 rfl bC_us fl_X5_46 rfl ?_
      refine k_iload_n (pc' := 17) h dX5_findings_16 rfl rfl 1 rfl ?_
      have g3 := gd_1 hf
      replace hf := gd_2 hf
      refine k_iald (pc' := 18) h dX5_findings_17 rfl aC_fc g3 ?_
      exact k_iret h r dX5_findings_18 (lf_i hf)
    · replace hf := if_f c2 hf
      refine k_iconst (pc' := 11) h dX5_findings_10 rfl ci_m1 ?_
      exact k_iret h r dX5_findings_11 (lf_i hf)
noncomputable def l_X5_digest_6  (v1 : Int64) (v3 : Int32) (st : St) : Option ((Int64 × Int32 × St) ⊕ (Int64 × Int32 × St)) :=
  (if (10 : Int32) ≤ v3 then (some (.inr (v1, v3, st))) else ((f_X5_count v3 st).bind (fun q2 => (lw (((31 : Int64) * v1) + q2.1.toInt64) (fun y3 => (some (.inl (y3, v3 + (1 : Int32), q2.2))))))))
set_option maxHeartbeats 4000000 in
theorem w_X5_digest_6 {G : GG} {X : Cx} (h : Ok X (oC G) cX5_digest RX5 5 (RM 3))    (n : Nat) (v1 : Int64) (v3 : Int32) (st : St) (q : Int64 × Int32 × St) (hq : iter (fun v : Int64 × Int32 × St => l_X5_digest_6  v.1 v.2.1 v.2.2) n (v1, v3, st) = some q) (kx : Wk X (oC G) 5 q.2.2 31 [(0, .ref (al (oC G) 0)), (1, .long q.1), (3, .int q.2.1)] []) : Wk X (oC G) 5 st 6 [(0, .ref (al (oC G) 0)), (1, .long v1), (3, .int v3)] [] := by
  refine iter_rule (hd := (fun v : Int64 × Int32 × St => Wk X (oC G) 5 v.2.2 6 [(0, .ref (al (oC G) 0)), (1, .long v.1), (3, .int v.2.1)] [])) (ex := (fun v : Int64 × Int32 × St => Wk X (oC G) 5 v.2.2 31 [(0, .ref (al (oC G) 0)), (1, .long v.1), (3, .int v.2.1)] [])) ?_ n (v1, v3, st) q hq kx
  rintro ⟨v1, v3, st⟩ oo hbv K
  show Wk X (oC G) 5 st 6 [(0, .ref (al (oC G) 0)), (1, .long v1), (3, .int v3)] []
  have hf : l_X5_digest_6  v1 v3 st = some oo := hbv
  unfold l_X5_digest_6 at hf
  refine k_iload_n (pc' := 7) h dX5_digest_6 rfl rfl 2 rfl ?_
  refine k_bipush (pc' := 9) h dX5_digest_7 rfl cb_10 ?_
  refine k_icmp_ge (tgt := 31) (pc' := 12) h dX5_digest_9 rfl rfl (fun c1 => ?_) (fun c1 => ?_)
  · replace hf := if_t c1 hf
    refine k_sub (lv' := [(0, .ref (al (oC G) 0)), (1, .long v1), (3, .int v3)]) [0, 1, 2] rfl ?_
    exact lp_o hf K
  · replace hf := if_f c1 hf
    refine k_ldc2 (pc' := 15) h dX5_digest_12 rfl cst_X5_291 ?_
    refine k_lload_n (pc' := 16) h dX5_digest_15 rfl rfl 1 rfl ?_
    refine k_lmul (pc' := 17) h dX5_digest_16 rfl ?_
    refine k_aload_n (pc' := 18) h dX5_digest_17 rfl rfl 0 rfl ?_
    refine k_iload_n (pc' := 19) h dX5_digest_18 rfl rfl 2 rfl ?_
    obtain ⟨q2, hq2, hf⟩ := bd_s hf
    refine k_callV (As := [.int v3]) (rest := [.long ((31 : Int64) * v1)]) (rv := some (.int q2.1)) (st' := q2.2) (stk' := [.int q2.1, .long ((31 : Int64) * v1)]) (pc' := 22) h dX5_digest_19 rfl ml_X5_293 wc_X5_count wi_X5_count ⟨Nat.le_of_ble_eq_true rfl, Nat.le_of_ble_eq_true rfl⟩ bC_us rfl rfl rfl rfl (Nat.le_of_ble_eq_true rfl) (fun l => c_X5_count l v3 st  _ _ hq2) rfl ?_
    refine k_i2l (pc' := 23) h dX5_digest_22 rfl ?_
    refine k_ladd (pc' := 24) h dX5_digest_23 rfl ?_
    obtain ⟨y3, hy3, hf⟩ := lw_s hf
    refine k_eql hy3 ?_
    refine k_lstore_n (lv' := [(0, .ref (al (oC G) 0)), (1, .long y3), (3, .int v3)]) (pc' := 25) h dX5_digest_24 rfl rfl (Nat.le_of_ble_eq_true rfl) [1, 0, 2] rfl ?_
    refine k_iinc (lv' := [(0, .ref (al (oC G) 0)), (1, .long y3), (3, .int (v3 + (1 : Int32)))]) (pc' := 28) h dX5_digest_25 rfl 2 rfl (congrArg (fun z => v3 + z) ci_1) (Nat.le_of_ble_eq_true rfl) [1, 2, 0] rfl ?_
    refine k_goto (tgt := 6) h dX5_digest_28 rfl ?_
    refine k_sub (lv' := [(0, .ref (al (oC G) 0)), (1, .long y3), (3, .int (v3 + (1 : Int32)))]) [0, 1, 2] rfl ?_
    exact lp_o hf K
noncomputable def l_X5_digest_47 (p3 : Int32) (v1 : Int64) (v4 : Int32) (st : St) : Option ((Int64 × Int32 × St) ⊕ (Int64 × Int32 × St)) :=
  (if (9 : Int32) ≤ v4 then (some (.inr (v1, v4, st))) else ((f_X3_factOf p3 v4 st).bind (fun q7 => (lw (((31 : Int64) * v1) + q7.1.toInt64) (fun y8 => (some (.inl (y8, v4 + (1 : Int32), q7.2))))))))
set_option maxHeartbeats 4000000 in
theorem w_X5_digest_47 {G : GG} {X : Cx} (h : Ok X (oC G) cX5_digest RX5 5 (RM 3))  (p3 : Int32)  (n : Nat) (v1 : Int64) (v4 : Int32) (st : St) (q : Int64 × Int32 × St) (hq : iter (fun v : Int64 × Int32 × St => l_X5_digest_47 p3 v.1 v.2.1 v.2.2) n (v1, v4, st) = some q) (kx : Wk X (oC G) 5 q.2.2 78 [(0, .ref (al (oC G) 0)), (1, .long q.1), (3, .int p3), (4, .int q.2.1)] []) : Wk X (oC G) 5 st 47 [(0, .ref (al (oC G) 0)), (1, .long v1), (3, .int p3), (4, .int v4)] [] := by
  refine iter_rule (hd := (fun v : Int64 × Int32 × St => Wk X (oC G) 5 v.2.2 47 [(0, .ref (al (oC G) 0)), (1, .long v.1), (3, .int p3), (4, .int v.2.1)] [])) (ex := (fun v : Int64 × Int32 × St => Wk X (oC G) 5 v.2.2 78 [(0, .ref (al (oC G) 0)), (1, .long v.1), (3, .int p3), (4, .int v.2.1)] [])) ?_ n (v1, v4, st) q hq kx
  rintro ⟨v1, v4, st⟩ oo hbv K
  show Wk X (oC G) 5 st 47 [(0, .ref (al (oC G) 0)), (1, .long v1), (3, .int p3), (4, .int v4)] []
  have hf : l_X5_digest_47 p3 v1 v4 st = some oo := hbv
  unfold l_X5_digest_47 at hf
  refine k_iload (pc' := 49) h dX5_digest_47 rfl 3 rfl ?_
  refine k_bipush (pc' := 51) h dX5_digest_49 rfl cb_9 ?_
  refine k_icmp_ge (tgt := 78) (pc' := 54) h dX5_digest_51 rfl rfl (fun c6 => ?_) (fun c6 => ?_)
  · replace hf := if_t c6 hf
    refine k_sub (lv' := [(0, .ref (al (oC G) 0)), (1, .long v1), (3, .int p3), (4, .int v4)]) [0, 1, 2, 3] rfl ?_
    exact lp_o hf K
  · replace hf := if_f c6 hf
    refine k_ldc2 (pc' := 57) h dX5_digest_54 rfl cst_X5_291 ?_
    refine k_lload_n (pc' := 58) h dX5_digest_57 rfl rfl 1 rfl ?_
    refine k_lmul (pc' := 59) h dX5_digest_58 rfl ?_
    refine k_aload_n (pc' := 60) h dX5_digest_59 rfl rfl 0 rfl ?_
    refine k_get (v := .ref (al (oC G) 15)) (pc' := 63) h dX5_digest_60 rfl bC_us fl_X5_29 rfl ?_
    refine k_iload_n (pc' := 64) h dX5_digest_63 rfl rfl 2 rfl ?_
    refine k_iload (pc' := 66) h dX5_digest_64 rfl 3 rfl ?_
    obtain ⟨q7, hq7, hf⟩ := bd_s hf
    refine k_callV (As := [.int p3, .int v4]) (rest := [.long ((31 : Int64) * v1)]) (rv := some (.int q7.1)) (st' := q7.2) (stk' := [.int q7.1, .long ((31 : Int64) * v1)]) (pc' := 69) h dX5_digest_66 rfl ml_X5_113 wc_X3_factOf wi_X3_factOf ⟨Nat.le_of_ble_eq_true rfl, Nat.le_of_ble_eq_true rfl⟩ bC_sh rfl rfl rfl rfl (Nat.le_of_ble_eq_true rfl) (fun l => c_X3_factOf l p3 v4 st  _ _ hq7) rfl ?_
    refine k_i2l (pc' := 70) h dX5_digest_69 rfl ?_
    refine k_ladd (pc' := 71) h dX5_digest_70 rfl ?_
    obtain ⟨y8, hy8, hf⟩ := lw_s hf
    refine k_eql hy8 ?_
    refine k_lstore_n (lv' := [(0, .ref (al (oC G) 0)), (1, .long y8), (3, .int p3), (4, .int v4)]) (pc' := 72) h dX5_digest_71 rfl rfl (Nat.le_of_ble_eq_true rfl) [1, 0, 2, 3] rfl ?_
    refine k_iinc (lv' := [(0, .ref (al (oC G) 0)), (1, .long y8), (3, .int p3), (4, .int (v4 + (1 : Int32)))]) (pc' := 75) h dX5_digest_72 rfl 3 rfl (congrArg (fun z => v4 + z) ci_1) (Nat.le_of_ble_eq_true rfl) [1, 2, 3, 0] rfl ?_
    refine k_goto (tgt := 47) h dX5_digest_75 rfl ?_
    refine k_sub (lv' := [(0, .ref (al (oC G) 0)), (1, .long y8), (3, .int p3), (4, .int (v4 + (1 : Int32)))]) [0, 1, 2, 3] rfl ?_
    exact lp_o hf K
noncomputable def l_X5_digest_33  (v1 : Int64) (v3 : Int32) (st : St) : Option ((Int64 × Int32 × St) ⊕ (Int64 × Int32 × St)) :=
  (if (st.1 15 2) ≤ v3 then (some (.inr (v1, v3, st))) else ((iter (fun v : Int64 × Int32 × St => l_X5_digest_47 v3 v.1 v.2.1 v.2.2) fuel (v1, (0 : Int32), st)).bind (fun q9 => (some (.inl (q9.1, v3 + (1 : Int32), q9.2.2))))))
set_option maxHeartbeats 4000000 in
theorem w_X5_digest_33 {G : GG} {X : Cx} (h : Ok X (oC G) cX5_digest RX5 5 (RM 3))    (n : Nat) (v1 : Int64) (v3 : Int32) (st : St) (q : Int64 × Int32 × St) (hq : iter (fun v : Int64 × Int32 × St => l_X5_digest_33  v.1 v.2.1 v.2.2) n (v1, v3, st) = some q) (kx : Wk X (oC G) 5 q.2.2 84 [(0, .ref (al (oC G) 0)), (1, .long q.1), (3, .int q.2.1)] []) : Wk X (oC G) 5 st 33 [(0, .ref (al (oC G) 0)), (1, .long v1), (3, .int v3)] [] := by
  refine iter_rule (hd := (fun v : Int64 × Int32 × St => Wk X (oC G) 5 v.2.2 33 [(0, .ref (al (oC G) 0)), (1, .long v.1), (3, .int v.2.1)] [])) (ex := (fun v : Int64 × Int32 × St => Wk X (oC G) 5 v.2.2 84 [(0, .ref (al (oC G) 0)), (1, .long v.1), (3, .int v.2.1)] [])) ?_ n (v1, v3, st) q hq kx
  rintro ⟨v1, v3, st⟩ oo hbv K
  show Wk X (oC G) 5 st 33 [(0, .ref (al (oC G) 0)), (1, .long v1), (3, .int v3)] []
  have hf : l_X5_digest_33  v1 v3 st = some oo := hbv
  unfold l_X5_digest_33 at hf
  refine k_iload_n (pc' := 34) h dX5_digest_33 rfl rfl 2 rfl ?_
  refine k_aload_n (pc' := 35) h dX5_digest_34 rfl rfl 0 rfl ?_
  refine k_get (v := .ref (al (oC G) 15)) (pc' := 38) h dX5_digest_35 rfl bC_us fl_X5_29 rfl ?_
  refine k_get (v := .int (st.1 15 2)) (pc' := 41) h dX5_digest_38 rfl bC_sh fl_X5_107 rfl ?_
  refine k_icmp_ge (tgt := 84) (pc' := 44) h dX5_digest_41 rfl rfl (fun c5 => ?_) (fun c5 => ?_)
  · replace hf := if_t c5 hf
    refine k_sub (lv' := [(0, .ref (al (oC G) 0)), (1, .long v1), (3, .int v3)]) [0, 1, 2] rfl ?_
    exact lp_o hf K
  · replace hf := if_f c5 hf
    refine k_iconst (pc' := 45) h dX5_digest_44 rfl ci_0 ?_
    refine k_istore (lv' := [(0, .ref (al (oC G) 0)), (1, .long v1), (3, .int v3), (4, .int (0 : Int32))]) (pc' := 47) h dX5_digest_45 rfl (Nat.le_of_ble_eq_true rfl) [1, 2, 3, 0] rfl ?_
    obtain ⟨q9, hq9, hf⟩ := bd_s hf
    refine w_X5_digest_47 h v3  fuel v1 (0 : Int32) st q9 hq9 ?_
    refine k_iinc (lv' := [(0, .ref (al (oC G) 0)), (1, .long q9.1), (3, .int (v3 + (1 : Int32))), (4, .int q9.2.1)]) (pc' := 81) h dX5_digest_78 rfl 2 rfl (congrArg (fun z => v3 + z) ci_1) (Nat.le_of_ble_eq_true rfl) [1, 2, 0, 3] rfl ?_
    refine k_goto (tgt := 33) h dX5_digest_81 rfl ?_
    refine k_sub (lv' := [(0, .ref (al (oC G) 0)), (1, .long q9.1), (3, .int (v3 + (1 : Int32)))]) [0, 1, 2] rfl ?_
    exact lp_o hf K
noncomputable def l_X5_digest_86  (v1 : Int64) (v3 : Int32) (st : St) : Option ((Int64 × Int32 × St) ⊕ (Int64 × Int32 × St)) :=
  (if (3 : Int32) ≤ v3 then (some (.inr (v1, v3, st))) else (gd (inb v3 3) (if (st.1 (24 + v3.toNatClampNeg) 2) = 0 then (lw (((31 : Int64) * v1) + ((-1 : Int32).toInt64)) (fun y14 => (some (.inl (y14, v3 + (1 : Int32), st))))) else (gd (inb v3 3) (lw (((31 : Int64) * v1) + ((st.1 ((24 + v3.toNatClampNeg) + 6) 2).toInt64)) (fun y17 => (some (.inl (y17, v3 + (1 : Int32), st)))))))))
set_option maxHeartbeats 4000000 in
theorem w_X5_digest_86 {G : GG} {X : Cx} (h : Ok X (oC G) cX5_digest RX5 5 (RM 3))    (n : Nat) (v1 : Int64) (v3 : Int32) (st : St) (q : Int64 × Int32 × St) (hq : iter (fun v : Int64 × Int32 × St => l_X5_digest_86  v.1 v.2.1 v.2.2) n (v1, v3, st) = some q) (kx : Wk X (oC G) 5 q.2.2 133 [(0, .ref (al (oC G) 0)), (1, .long q.1), (3, .int q.2.1)] []) : Wk X (oC G) 5 st 86 [(0, .ref (al (oC G) 0)), (1, .long v1), (3, .int v3)] [] := by
  refine iter_rule (hd := (fun v : Int64 × Int32 × St => Wk X (oC G) 5 v.2.2 86 [(0, .ref (al (oC G) 0)), (1, .long v.1), (3, .int v.2.1)] [])) (ex := (fun v : Int64 × Int32 × St => Wk X (oC G) 5 v.2.2 133 [(0, .ref (al (oC G) 0)), (1, .long v.1), (3, .int v.2.1)] [])) ?_ n (v1, v3, st) q hq kx
  rintro ⟨v1, v3, st⟩ oo hbv K
  show Wk X (oC G) 5 st 86 [(0, .ref (al (oC G) 0)), (1, .long v1), (3, .int v3)] []
  have hf : l_X5_digest_86  v1 v3 st = some oo := hbv
  unfold l_X5_digest_86 at hf
  refine k_iload_n (pc' := 87) h dX5_digest_86 rfl rfl 2 rfl ?_
  refine k_iconst (pc' := 88) h dX5_digest_87 rfl ci_3 ?_
  refine k_icmp_ge (tgt := 133) (pc' := 91) h dX5_digest_88 rfl rfl (fun c11 => ?_) (fun c11 => ?_)
  · replace hf := if_t c11 hf
    refine k_sub (lv' := [(0, .ref (al (oC G) 0)), (1, .long v1), (3, .int v3)]) [0, 1, 2] rfl ?_
    exact lp_o hf K
  · replace hf := if_f c11 hf
    refine k_ldc2 (pc' := 94) h dX5_digest_91 rfl cst_X5_291 ?_
    refine k_lload_n (pc' := 95) h dX5_digest_94 rfl rfl 1 rfl ?_
    refine k_lmul (pc' := 96) h dX5_digest_95 rfl ?_
    refine k_aload_n (pc' := 97) h dX5_digest_96 rfl rfl 0 rfl ?_
    refine k_get (v := .ref (al (oC G) 23)) (pc' := 100) h dX5_digest_97 rfl bC_us fl_X5_35 rfl ?_
    refine k_iload_n (pc' := 101) h dX5_digest_100 rfl rfl 2 rfl ?_
    have g12 := gd_1 hf
    replace hf := gd_2 hf
    refine k_aald (tt := .object "TheUsual$Kept") (pc' := 102) h dX5_digest_101 rfl rC_plc rfl rfl g12 ?_
    refine k_get (v := .int (st.1 (24 + v3.toNatClampNeg) 2)) (pc' := 105) h dX5_digest_102 rfl (bC_ke (Nat.le_add_right 24 v3.toNatClampNeg) (Nat.add_lt_add_left (inb_lt g12) 24)) fl_X5_103 rfl ?_
    refine k_if_eq (tgt := 123) (pc' := 108) h dX5_digest_105 rfl rfl (fun c13 => ?_) (fun c13 => ?_)
    · replace hf := if_t c13 hf
      refine k_iconst (pc' := 124) h dX5_digest_123 rfl ci_m1 ?_
      refine k_i2l (pc' := 125) h dX5_digest_124 rfl ?_
      refine k_ladd (pc' := 126) h dX5_digest_125 rfl ?_
      obtain ⟨y14, hy14, hf⟩ := lw_s hf
      refine k_eql hy14 ?_
      refine k_lstore_n (lv' := [(0, .ref (al (oC G) 0)), (1, .long y14), (3, .int v3)]) (pc' := 127) h dX5_digest_126 rfl rfl (Nat.le_of_ble_eq_true rfl) [1, 0, 2] rfl ?_
      refine k_iinc (lv' := [(0, .ref (al (oC G) 0)), (1, .long y14), (3, .int (v3 + (1 : Int32)))]) (pc' := 130) h dX5_digest_127 rfl 2 rfl (congrArg (fun z => v3 + z) ci_1) (Nat.le_of_ble_eq_true rfl) [1, 2, 0] rfl ?_
      refine k_goto (tgt := 86) h dX5_digest_130 rfl ?_
      refine k_sub (lv' := [(0, .ref (al (oC G) 0)), (1, .long y14), (3, .int (v3 + (1 : Int32)))]) [0, 1, 2] rfl ?_
      exact lp_o hf K
    · replace hf := if_f c13 hf
      refine k_aload_n (pc' := 109) h dX5_digest_108 rfl rfl 0 rfl ?_
      refine k_get (v := .ref (al (oC G) 23)) (pc' := 112) h dX5_digest_109 rfl bC_us fl_X5_35 rfl ?_
      refine k_iload_n (pc' := 113) h dX5_digest_112 rfl rfl 2 rfl ?_
      have g15 := gd_1 hf
      replace hf := gd_2 hf
      refine k_aald (tt := .object "TheUsual$Kept") (pc' := 114) h dX5_digest_113 rfl rC_plc rfl rfl g15 ?_
      have z16a : 30 ≤ (24 + v3.toNatClampNeg) + 6 := by have := (Nat.le_add_right 24 v3.toNatClampNeg); omega
      have z16b : (24 + v3.toNatClampNeg) + 6 < 34 := by have := (Nat.add_lt_add_left (inb_lt g15) 24); omega
      refine k_get (v := .ref (al (oC G) ((24 + v3.toNatClampNeg) + 6))) (pc' := 117) h dX5_digest_114 rfl (bC_ke (Nat.le_add_right 24 v3.toNatClampNeg) (Nat.add_lt_add_left (inb_lt g15) 24)) fl_X5_296 rfl ?_
      refine k_get (v := .int (st.1 ((24 + v3.toNatClampNeg) + 6) 2)) (pc' := 120) h dX5_digest_117 rfl (bC_tu z16a z16b) fl_X5_162 rfl ?_
      refine k_goto (tgt := 124) h dX5_digest_120 rfl ?_
      refine k_i2l (pc' := 125) h dX5_digest_124 rfl ?_
      refine k_ladd (pc' := 126) h dX5_digest_125 rfl ?_
      obtain ⟨y17, hy17, hf⟩ := lw_s hf
      refine k_eql hy17 ?_
      refine k_lstore_n (lv' := [(0, .ref (al (oC G) 0)), (1, .long y17), (3, .int v3)]) (pc' := 127) h dX5_digest_126 rfl rfl (Nat.le_of_ble_eq_true rfl) [1, 0, 2] rfl ?_
      refine k_iinc (lv' := [(0, .ref (al (oC G) 0)), (1, .long y17), (3, .int (v3 + (1 : Int32)))]) (pc' := 130) h dX5_digest_127 rfl 2 rfl (congrArg (fun z => v3 + z) ci_1) (Nat.le_of_ble_eq_true rfl) [1, 2, 0] rfl ?_
      refine k_goto (tgt := 86) h dX5_digest_130 rfl ?_
      refine k_sub (lv' := [(0, .ref (al (oC G) 0)), (1, .long y17), (3, .int (v3 + (1 : Int32)))]) [0, 1, 2] rfl ?_
      exact lp_o hf K
noncomputable def l_X5_digest_158 (p3 : Int32) (v1 : Int64) (v4 : Int32) (st : St) : Option ((Int64 × Int32 × St) ⊕ (Int64 × Int32 × St)) :=
  (gd (inb p3 6) (if (st.1 8 p3.toNatClampNeg) ≤ v4 then (some (.inr (v1, v4, st))) else (gd (inb p3 6) (gd (inb v4 40) (lw (((31 : Int64) * v1) + ((st.1 (2 + p3.toNatClampNeg) v4.toNatClampNeg).toInt64)) (fun y26 => (some (.inl (y26, v4 + (1 : Int32), st)))))))))
set_option maxHeartbeats 4000000 in
theorem w_X5_digest_158 {G : GG} {X : Cx} (h : Ok X (oC G) cX5_digest RX5 5 (RM 3))  (p3 : Int32)  (n : Nat) (v1 : Int64) (v4 : Int32) (st : St) (q : Int64 × Int32 × St) (hq : iter (fun v : Int64 × Int32 × St => l_X5_digest_158 p3 v.1 v.2.1 v.2.2) n (v1, v4, st) = some q) (kx : Wk X (oC G) 5 q.2.2 192 [(0, .ref (al (oC G) 0)), (1, .long q.1), (3, .int p3), (4, .int q.2.1)] []) : Wk X (oC G) 5 st 158 [(0, .ref (al (oC G) 0)), (1, .long v1), (3, .int p3), (4, .int v4)] [] := by
  refine iter_rule (hd := (fun v : Int64 × Int32 × St => Wk X (oC G) 5 v.2.2 158 [(0, .ref (al (oC G) 0)), (1, .long v.1), (3, .int p3), (4, .int v.2.1)] [])) (ex := (fun v : Int64 × Int32 × St => Wk X (oC G) 5 v.2.2 192 [(0, .ref (al (oC G) 0)), (1, .long v.1), (3, .int p3), (4, .int v.2.1)] [])) ?_ n (v1, v4, st) q hq kx
  rintro ⟨v1, v4, st⟩ oo hbv K
  show Wk X (oC G) 5 st 158 [(0, .ref (al (oC G) 0)), (1, .long v1), (3, .int p3), (4, .int v4)] []
  have hf : l_X5_digest_158 p3 v1 v4 st = some oo := hbv
  unfold l_X5_digest_158 at hf
  refine k_iload (pc' := 160) h dX5_digest_158 rfl 3 rfl ?_
  refine k_aload_n (pc' := 161) h dX5_digest_160 rfl rfl 0 rfl ?_
  refine k_get (v := .ref (al (oC G) 8)) (pc' := 164) h dX5_digest_161 rfl bC_us fl_X5_14 rfl ?_
  refine k_iload_n (pc' := 165) h dX5_digest_164 rfl rfl 2 rfl ?_
  have g22 := gd_1 hf
  replace hf := gd_2 hf
  refine k_iald (pc' := 166) h dX5_digest_165 rfl aC_rs g22 ?_
  refine k_icmp_ge (tgt := 192) (pc' := 169) h dX5_digest_166 rfl rfl (fun c23 => ?_) (fun c23 => ?_)
  · replace hf := if_t c23 hf
    refine k_sub (lv' := [(0, .ref (al (oC G) 0)), (1, .long v1), (3, .int p3), (4, .int v4)]) [0, 1, 2, 3] rfl ?_
    exact lp_o hf K
  · replace hf := if_f c23 hf
    refine k_ldc2 (pc' := 172) h dX5_digest_169 rfl cst_X5_291 ?_
    refine k_lload_n (pc' := 173) h dX5_digest_172 rfl rfl 1 rfl ?_
    refine k_lmul (pc' := 174) h dX5_digest_173 rfl ?_
    refine k_aload_n (pc' := 175) h dX5_digest_174 rfl rfl 0 rfl ?_
    refine k_get (v := .ref (al (oC G) 1)) (pc' := 178) h dX5_digest_175 rfl bC_us fl_X5_11 rfl ?_
    refine k_iload_n (pc' := 179) h dX5_digest_178 rfl rfl 2 rfl ?_
    have g24 := gd_1 hf
    replace hf := gd_2 hf
    refine k_aald (tt := .array .int) (pc' := 180) h dX5_digest_179 rfl rC_rows rfl rfl g24 ?_
    refine k_iload (pc' := 182) h dX5_digest_180 rfl 3 rfl ?_
    have g25 := gd_1 hf
    replace hf := gd_2 hf
    refine k_iald (pc' := 183) h dX5_digest_182 rfl (aC_row (Nat.le_add_right 2 p3.toNatClampNeg) (Nat.add_lt_add_left (inb_lt g24) 2)) g25 ?_
    refine k_i2l (pc' := 184) h dX5_digest_183 rfl ?_
    refine k_ladd (pc' := 185) h dX5_digest_184 rfl ?_
    obtain ⟨y26, hy26, hf⟩ := lw_s hf
    refine k_eql hy26 ?_
    refine k_lstore_n (lv' := [(0, .ref (al (oC G) 0)), (1, .long y26), (3, .int p3), (4, .int v4)]) (pc' := 186) h dX5_digest_185 rfl rfl (Nat.le_of_ble_eq_true rfl) [1, 0, 2, 3] rfl ?_
    refine k_iinc (lv' := [(0, .ref (al (oC G) 0)), (1, .long y26), (3, .int p3), (4, .int (v4 + (1 : Int32)))]) (pc' := 189) h dX5_digest_186 rfl 3 rfl (congrArg (fun z => v4 + z) ci_1) (Nat.le_of_ble_eq_true rfl) [1, 2, 3, 0] rfl ?_
    refine k_goto (tgt := 158) h dX5_digest_189 rfl ?_
    refine k_sub (lv' := [(0, .ref (al (oC G) 0)), (1, .long y26), (3, .int p3), (4, .int (v4 + (1 : Int32)))]) [0, 1, 2, 3] rfl ?_
    exact lp_o hf K
noncomputable def l_X5_digest_135  (v1 : Int64) (v3 : Int32) (st : St) : Option ((Int64 × Int32 × St) ⊕ (Int64 × Int32 × St)) :=
  (if (6 : Int32) ≤ v3 then (some (.inr (v1, v3, st))) else (gd (inb v3 6) (lw (((31 : Int64) * v1) + ((st.1 8 v3.toNatClampNeg).toInt64)) (fun y21 => ((iter (fun v : Int64 × Int32 × St => l_X5_digest_158 v3 v.1 v.2.1 v.2.2) fuel (y21, (0 : Int32), st)).bind (fun q27 => (some (.inl (q27.1, v3 + (1 : Int32), q27.2.2)))))))))
set_option maxHeartbeats 4000000 in
theorem w_X5_digest_135 {G : GG} {X : Cx} (h : Ok X (oC G) cX5_digest RX5 5 (RM 3))    (n : Nat) (v1 : Int64) (v3 : Int32) (st : St) (q : Int64 × Int32 × St) (hq : iter (fun v : Int64 × Int32 × St => l_X5_digest_135  v.1 v.2.1 v.2.2) n (v1, v3, st) = some q) (kx : Wk X (oC G) 5 q.2.2 198 [(0, .ref (al (oC G) 0)), (1, .long q.1), (3, .int q.2.1)] []) : Wk X (oC G) 5 st 135 [(0, .ref (al (oC G) 0)), (1, .long v1), (3, .int v3)] [] := by
  refine iter_rule (hd := (fun v : Int64 × Int32 × St => Wk X (oC G) 5 v.2.2 135 [(0, .ref (al (oC G) 0)), (1, .long v.1), (3, .int v.2.1)] [])) (ex := (fun v : Int64 × Int32 × St => Wk X (oC G) 5 v.2.2 198 [(0, .ref (al (oC G) 0)), (1, .long v.1), (3, .int v.2.1)] [])) ?_ n (v1, v3, st) q hq kx
  rintro ⟨v1, v3, st⟩ oo hbv K
  show Wk X (oC G) 5 st 135 [(0, .ref (al (oC G) 0)), (1, .long v1), (3, .int v3)] []
  have hf : l_X5_digest_135  v1 v3 st = some oo := hbv
  unfold l_X5_digest_135 at hf
  refine k_iload_n (pc' := 136) h dX5_digest_135 rfl rfl 2 rfl ?_
  refine k_bipush (pc' := 138) h dX5_digest_136 rfl cb_6 ?_
  refine k_icmp_ge (tgt := 198) (pc' := 141) h dX5_digest_138 rfl rfl (fun c19 => ?_) (fun c19 => ?_)
  · replace hf := if_t c19 hf
    refine k_sub (lv' := [(0, .ref (al (oC G) 0)), (1, .long v1), (3, .int v3)]) [0, 1, 2] rfl ?_
    exact lp_o hf K
  · replace hf := if_f c19 hf
    refine k_ldc2 (pc' := 144) h dX5_digest_141 rfl cst_X5_291 ?_
    refine k_lload_n (pc' := 145) h dX5_digest_144 rfl rfl 1 rfl ?_
    refine k_lmul (pc' := 146) h dX5_digest_145 rfl ?_
    refine k_aload_n (pc' := 147) h dX5_digest_146 rfl rfl 0 rfl ?_
    refine k_get (v := .ref (al (oC G) 8)) (pc' := 150) h dX5_digest_147 rfl bC_us fl_X5_14 rfl ?_
    refine k_iload_n (pc' := 151) h dX5_digest_150 rfl rfl 2 rfl ?_
    have g20 := gd_1 hf
    replace hf := gd_2 hf
    refine k_iald (pc' := 152) h dX5_digest_151 rfl aC_rs g20 ?_
    refine k_i2l (pc' := 153) h dX5_digest_152 rfl ?_
    refine k_ladd (pc' := 154) h dX5_digest_153 rfl ?_
    obtain ⟨y21, hy21, hf⟩ := lw_s hf
    refine k_eql hy21 ?_
    refine k_lstore_n (lv' := [(0, .ref (al (oC G) 0)), (1, .long y21), (3, .int v3)]) (pc' := 155) h dX5_digest_154 rfl rfl (Nat.le_of_ble_eq_true rfl) [1, 0, 2] rfl ?_
    refine k_iconst (pc' := 156) h dX5_digest_155 rfl ci_0 ?_
    refine k_istore (lv' := [(0, .ref (al (oC G) 0)), (1, .long y21), (3, .int v3), (4, .int (0 : Int32))]) (pc' := 158) h dX5_digest_156 rfl (Nat.le_of_ble_eq_true rfl) [1, 2, 3, 0] rfl ?_
    obtain ⟨q27, hq27, hf⟩ := bd_s hf
    refine w_X5_digest_158 h v3  fuel y21 (0 : Int32) st q27 hq27 ?_
    refine k_iinc (lv' := [(0, .ref (al (oC G) 0)), (1, .long q27.1), (3, .int (v3 + (1 : Int32))), (4, .int q27.2.1)]) (pc' := 195) h dX5_digest_192 rfl 2 rfl (congrArg (fun z => v3 + z) ci_1) (Nat.le_of_ble_eq_true rfl) [1, 2, 0, 3] rfl ?_
    refine k_goto (tgt := 135) h dX5_digest_195 rfl ?_
    refine k_sub (lv' := [(0, .ref (al (oC G) 0)), (1, .long q27.1), (3, .int (v3 + (1 : Int32)))]) [0, 1, 2] rfl ?_
    exact lp_o hf K
noncomputable def l_X5_digest_222 (p3 : Int32) (v1 : Int64) (v4 : Int32) (st : St) : Option ((Int64 × Int32 × St) ⊕ (Int64 × Int32 × St)) :=
  (gd (inb p3 4) (if (st.1 14 p3.toNatClampNeg) ≤ v4 then (some (.inr (v1, v4, st))) else (gd (inb p3 4) (gd (inb v4 60) (lw (((31 : Int64) * v1) + ((st.1 (10 + p3.toNatClampNeg) v4.toNatClampNeg).toInt64)) (fun y36 => (some (.inl (y36, v4 + (1 : Int32), st)))))))))
set_option maxHeartbeats 4000000 in
theorem w_X5_digest_222 {G : GG} {X : Cx} (h : Ok X (oC G) cX5_digest RX5 5 (RM 3))  (p3 : Int32)  (n : Nat) (v1 : Int64) (v4 : Int32) (st : St) (q : Int64 × Int32 × St) (hq : iter (fun v : Int64 × Int32 × St => l_X5_digest_222 p3 v.1 v.2.1 v.2.2) n (v1, v4, st) = some q) (kx : Wk X (oC G) 5 q.2.2 256 [(0, .ref (al (oC G) 0)), (1, .long q.1), (3, .int p3), (4, .int q.2.1)] []) : Wk X (oC G) 5 st 222 [(0, .ref (al (oC G) 0)), (1, .long v1), (3, .int p3), (4, .int v4)] [] := by
  refine iter_rule (hd := (fun v : Int64 × Int32 × St => Wk X (oC G) 5 v.2.2 222 [(0, .ref (al (oC G) 0)), (1, .long v.1), (3, .int p3), (4, .int v.2.1)] [])) (ex := (fun v : Int64 × Int32 × St => Wk X (oC G) 5 v.2.2 256 [(0, .ref (al (oC G) 0)), (1, .long v.1), (3, .int p3), (4, .int v.2.1)] [])) ?_ n (v1, v4, st) q hq kx
  rintro ⟨v1, v4, st⟩ oo hbv K
  show Wk X (oC G) 5 st 222 [(0, .ref (al (oC G) 0)), (1, .long v1), (3, .int p3), (4, .int v4)] []
  have hf : l_X5_digest_222 p3 v1 v4 st = some oo := hbv
  unfold l_X5_digest_222 at hf
  refine k_iload (pc' := 224) h dX5_digest_222 rfl 3 rfl ?_
  refine k_aload_n (pc' := 225) h dX5_digest_224 rfl rfl 0 rfl ?_
  refine k_get (v := .ref (al (oC G) 14)) (pc' := 228) h dX5_digest_225 rfl bC_us fl_X5_23 rfl ?_
  refine k_iload_n (pc' := 229) h dX5_digest_228 rfl rfl 2 rfl ?_
  have g32 := gd_1 hf
  replace hf := gd_2 hf
  refine k_iald (pc' := 230) h dX5_digest_229 rfl aC_ts g32 ?_
  refine k_icmp_ge (tgt := 256) (pc' := 233) h dX5_digest_230 rfl rfl (fun c33 => ?_) (fun c33 => ?_)
  · replace hf := if_t c33 hf
    refine k_sub (lv' := [(0, .ref (al (oC G) 0)), (1, .long v1), (3, .int p3), (4, .int v4)]) [0, 1, 2, 3] rfl ?_
    exact lp_o hf K
  · replace hf := if_f c33 hf
    refine k_ldc2 (pc' := 236) h dX5_digest_233 rfl cst_X5_291 ?_
    refine k_lload_n (pc' := 237) h dX5_digest_236 rfl rfl 1 rfl ?_
    refine k_lmul (pc' := 238) h dX5_digest_237 rfl ?_
    refine k_aload_n (pc' := 239) h dX5_digest_238 rfl rfl 0 rfl ?_
    refine k_get (v := .ref (al (oC G) 9)) (pc' := 242) h dX5_digest_239 rfl bC_us fl_X5_20 rfl ?_
    refine k_iload_n (pc' := 243) h dX5_digest_242 rfl rfl 2 rfl ?_
    have g34 := gd_1 hf
    replace hf := gd_2 hf
    refine k_aald (tt := .array .byte) (pc' := 244) h dX5_digest_243 rfl rC_texts rfl rfl g34 ?_
    refine k_iload (pc' := 246) h dX5_digest_244 rfl 3 rfl ?_
    have g35 := gd_1 hf
    replace hf := gd_2 hf
    refine k_bald (pc' := 247) h dX5_digest_246 rfl (aC_text (Nat.le_add_right 10 p3.toNatClampNeg) (Nat.add_lt_add_left (inb_lt g34) 10)) g35 ?_
    refine k_i2l (pc' := 248) h dX5_digest_247 rfl ?_
    refine k_ladd (pc' := 249) h dX5_digest_248 rfl ?_
    obtain ⟨y36, hy36, hf⟩ := lw_s hf
    refine k_eql hy36 ?_
    refine k_lstore_n (lv' := [(0, .ref (al (oC G) 0)), (1, .long y36), (3, .int p3), (4, .int v4)]) (pc' := 250) h dX5_digest_249 rfl rfl (Nat.le_of_ble_eq_true rfl) [1, 0, 2, 3] rfl ?_
    refine k_iinc (lv' := [(0, .ref (al (oC G) 0)), (1, .long y36), (3, .int p3), (4, .int (v4 + (1 : Int32)))]) (pc' := 253) h dX5_digest_250 rfl 3 rfl (congrArg (fun z => v4 + z) ci_1) (Nat.le_of_ble_eq_true rfl) [1, 2, 3, 0] rfl ?_
    refine k_goto (tgt := 222) h dX5_digest_253 rfl ?_
    refine k_sub (lv' := [(0, .ref (al (oC G) 0)), (1, .long y36), (3, .int p3), (4, .int (v4 + (1 : Int32)))]) [0, 1, 2, 3] rfl ?_
    exact lp_o hf K
noncomputable def l_X5_digest_200  (v1 : Int64) (v3 : Int32) (st : St) : Option ((Int64 × Int32 × St) ⊕ (Int64 × Int32 × St)) :=
  (if (4 : Int32) ≤ v3 then (some (.inr (v1, v3, st))) else (gd (inb v3 4) (lw (((31 : Int64) * v1) + ((st.1 14 v3.toNatClampNeg).toInt64)) (fun y31 => ((iter (fun v : Int64 × Int32 × St => l_X5_digest_222 v3 v.1 v.2.1 v.2.2) fuel (y31, (0 : Int32), st)).bind (fun q37 => (some (.inl (q37.1, v3 + (1 : Int32), q37.2.2)))))))))
set_option maxHeartbeats 4000000 in
theorem w_X5_digest_200 {G : GG} {X : Cx} (h : Ok X (oC G) cX5_digest RX5 5 (RM 3))    (n : Nat) (v1 : Int64) (v3 : Int32) (st : St) (q : Int64 × Int32 × St) (hq : iter (fun v : Int64 × Int32 × St => l_X5_digest_200  v.1 v.2.1 v.2.2) n (v1, v3, st) = some q) (kx : Wk X (oC G) 5 q.2.2 262 [(0, .ref (al (oC G) 0)), (1, .long q.1), (3, .int q.2.1)] []) : Wk X (oC G) 5 st 200 [(0, .ref (al (oC G) 0)), (1, .long v1), (3, .int v3)] [] := by
  refine iter_rule (hd := (fun v : Int64 × Int32 × St => Wk X (oC G) 5 v.2.2 200 [(0, .ref (al (oC G) 0)), (1, .long v.1), (3, .int v.2.1)] [])) (ex := (fun v : Int64 × Int32 × St => Wk X (oC G) 5 v.2.2 262 [(0, .ref (al (oC G) 0)), (1, .long v.1), (3, .int v.2.1)] [])) ?_ n (v1, v3, st) q hq kx
  rintro ⟨v1, v3, st⟩ oo hbv K
  show Wk X (oC G) 5 st 200 [(0, .ref (al (oC G) 0)), (1, .long v1), (3, .int v3)] []
  have hf : l_X5_digest_200  v1 v3 st = some oo := hbv
  unfold l_X5_digest_200 at hf
  refine k_iload_n (pc' := 201) h dX5_digest_200 rfl rfl 2 rfl ?_
  refine k_iconst (pc' := 202) h dX5_digest_201 rfl ci_4 ?_
  refine k_icmp_ge (tgt := 262) (pc' := 205) h dX5_digest_202 rfl rfl (fun c29 => ?_) (fun c29 => ?_)
  · replace hf := if_t c29 hf
    refine k_sub (lv' := [(0, .ref (al (oC G) 0)), (1, .long v1), (3, .int v3)]) [0, 1, 2] rfl ?_
    exact lp_o hf K
  · replace hf := if_f c29 hf
    refine k_ldc2 (pc' := 208) h dX5_digest_205 rfl cst_X5_291 ?_
    refine k_lload_n (pc' := 209) h dX5_digest_208 rfl rfl 1 rfl ?_
    refine k_lmul (pc' := 210) h dX5_digest_209 rfl ?_
    refine k_aload_n (pc' := 211) h dX5_digest_210 rfl rfl 0 rfl ?_
    refine k_get (v := .ref (al (oC G) 14)) (pc' := 214) h dX5_digest_211 rfl bC_us fl_X5_23 rfl ?_
    refine k_iload_n (pc' := 215) h dX5_digest_214 rfl rfl 2 rfl ?_
    have g30 := gd_1 hf
    replace hf := gd_2 hf
    refine k_iald (pc' := 216) h dX5_digest_215 rfl aC_ts g30 ?_
    refine k_i2l (pc' := 217) h dX5_digest_216 rfl ?_
    refine k_ladd (pc' := 218) h dX5_digest_217 rfl ?_
    obtain ⟨y31, hy31, hf⟩ := lw_s hf
    refine k_eql hy31 ?_
    refine k_lstore_n (lv' := [(0, .ref (al (oC G) 0)), (1, .long y31), (3, .int v3)]) (pc' := 219) h dX5_digest_218 rfl rfl (Nat.le_of_ble_eq_true rfl) [1, 0, 2] rfl ?_
    refine k_iconst (pc' := 220) h dX5_digest_219 rfl ci_0 ?_
    refine k_istore (lv' := [(0, .ref (al (oC G) 0)), (1, .long y31), (3, .int v3), (4, .int (0 : Int32))]) (pc' := 222) h dX5_digest_220 rfl (Nat.le_of_ble_eq_true rfl) [1, 2, 3, 0] rfl ?_
    obtain ⟨q37, hq37, hf⟩ := bd_s hf
    refine w_X5_digest_222 h v3  fuel y31 (0 : Int32) st q37 hq37 ?_
    refine k_iinc (lv' := [(0, .ref (al (oC G) 0)), (1, .long q37.1), (3, .int (v3 + (1 : Int32))), (4, .int q37.2.1)]) (pc' := 259) h dX5_digest_256 rfl 2 rfl (congrArg (fun z => v3 + z) ci_1) (Nat.le_of_ble_eq_true rfl) [1, 2, 0, 3] rfl ?_
    refine k_goto (tgt := 200) h dX5_digest_259 rfl ?_
    refine k_sub (lv' := [(0, .ref (al (oC G) 0)), (1, .long q37.1), (3, .int (v3 + (1 : Int32)))]) [0, 1, 2] rfl ?_
    exact lp_o hf K
noncomputable def f_X5_digest  (st : St) : Option (Int64 × St) :=
  ((iter (fun v : Int64 × Int32 × St => l_X5_digest_6  v.1 v.2.1 v.2.2) fuel ((17 : Int64), (0 : Int32), st)).bind (fun q4 => ((iter (fun v : Int64 × Int32 × St => l_X5_digest_33  v.1 v.2.1 v.2.2) fuel (q4.1, (0 : Int32), q4.2.2)).bind (fun q10 => ((iter (fun v : Int64 × Int32 × St => l_X5_digest_86  v.1 v.2.1 v.2.2) fuel (q10.1, (0 : Int32), q10.2.2)).bind (fun q18 => ((iter (fun v : Int64 × Int32 × St => l_X5_digest_135  v.1 v.2.1 v.2.2) fuel (q18.1, (0 : Int32), q18.2.2)).bind (fun q28 => ((iter (fun v : Int64 × Int32 × St => l_X5_digest_200  v.1 v.2.1 v.2.2) fuel (q28.1, (0 : Int32), q28.2.2)).bind (fun q38 => (some (q38.1, q38.2.2))))))))))))
set_option maxHeartbeats 4000000 in
theorem c_X5_digest {G : GG} (l : Launch)  (st : St)  (rr : Int64) (st' : St) (hf : f_X5_digest  st = some (rr, st')) : MM l yX5_digest cX5_digest 5 (some .long) 3 (oC G) [.ref (al (oC G) 0)] st (some (.long rr)) st' := by
  refine mk_MM (by decide +kernel) (Nat.le_of_ble_eq_true rfl) (fun X h r => ?_)
  refine k_sub (lv' := [(0, .ref (al (oC G) 0))]) [0] rfl ?_
  unfold f_X5_digest at hf
  refine k_ldc2 (pc' := 3) h dX5_digest_0 rfl cst_X5_289 ?_
  refine k_lstore_n (lv' := [(0, .ref (al (oC G) 0)), (1, .long (17 : Int64))]) (pc' := 4) h dX5_digest_3 rfl rfl (Nat.le_of_ble_eq_true rfl) [1, 0] rfl ?_
  refine k_iconst (pc' := 5) h dX5_digest_4 rfl ci_0 ?_
  refine k_istore_n (lv' := [(0, .ref (al (oC G) 0)), (1, .long (17 : Int64)), (3, .int (0 : Int32))]) (pc' := 6) h dX5_digest_5 rfl rfl (Nat.le_of_ble_eq_true rfl) [1, 2, 0] rfl ?_
  obtain ⟨q4, hq4, hf⟩ := bd_s hf
  refine w_X5_digest_6 h   fuel (17 : Int64) (0 : Int32) st q4 hq4 ?_
  refine k_iconst (pc' := 32) h dX5_digest_31 rfl ci_0 ?_
  refine k_istore_n (lv' := [(0, .ref (al (oC G) 0)), (1, .long q4.1), (3, .int (0 : Int32))]) (pc' := 33) h dX5_digest_32 rfl rfl (Nat.le_of_ble_eq_true rfl) [1, 2, 0] rfl ?_
  obtain ⟨q10, hq10, hf⟩ := bd_s hf
  refine w_X5_digest_33 h   fuel q4.1 (0 : Int32) q4.2.2 q10 hq10 ?_
  refine k_iconst (pc' := 85) h dX5_digest_84 rfl ci_0 ?_
  refine k_istore_n (lv' := [(0, .ref (al (oC G) 0)), (1, .long q10.1), (3, .int (0 : Int32))]) (pc' := 86) h dX5_digest_85 rfl rfl (Nat.le_of_ble_eq_true rfl) [1, 2, 0] rfl ?_
  obtain ⟨q18, hq18, hf⟩ := bd_s hf
  refine w_X5_digest_86 h   fuel q10.1 (0 : Int32) q10.2.2 q18 hq18 ?_
  refine k_iconst (pc' := 134) h dX5_digest_133 rfl ci_0 ?_
  refine k_istore_n (lv' := [(0, .ref (al (oC G) 0)), (1, .long q18.1), (3, .int (0 : Int32))]) (pc' := 135) h dX5_digest_134 rfl rfl (Nat.le_of_ble_eq_true rfl) [1, 2, 0] rfl ?_
  obtain ⟨q28, hq28, hf⟩ := bd_s hf
  refine w_X5_digest_135 h   fuel q18.1 (0 : Int32) q18.2.2 q28 hq28 ?_
  refine k_iconst (pc' := 199) h dX5_digest_198 rfl ci_0 ?_
  refine k_istore_n (lv' := [(0, .ref (al (oC G) 0)), (1, .long q28.1), (3, .int (0 : Int32))]) (pc' := 200) h dX5_digest_199 rfl rfl (Nat.le_of_ble_eq_true rfl) [1, 2, 0] rfl ?_
  obtain ⟨q38, hq38, hf⟩ := bd_s hf
  refine w_X5_digest_200 h   fuel q28.1 (0 : Int32) q28.2.2 q38 hq38 ?_
  refine k_lload_n (pc' := 263) h dX5_digest_262 rfl rfl 1 rfl ?_
  exact k_lret h r dX5_digest_263 (lf_l hf)
noncomputable def f_X6_in (x0 : Int32) (x1 : Int32) (x2 : Int32) (st : St) : Option (Int32 × St) :=
  (if x0 < x1 then (some ((0 : Int32), st)) else (if x2 < x0 then (some ((0 : Int32), st)) else (some ((1 : Int32), st))))
set_option maxHeartbeats 4000000 in
theorem c_X6_in {G : GG} (l : Launch) (x0 : Int32) (x1 : Int32) (x2 : Int32) (st : St)  (rr : Int32) (st' : St) (hf : f_X6_in x0 x1 x2 st = some (rr, st')) : MM l yX6_in cX6_in 3 (some .boolean) 0 (oM G) [.int x0, .int x1, .int x2] st (some (.int rr)) st' := by
  refine mk_MM (by decide +kernel) (Nat.le_of_ble_eq_true rfl) (fun X h r => ?_)
  refine k_sub (lv' := [(0, .int x0), (1, .int x1), (2, .int x2)]) [0, 1, 2] rfl ?_
  unfold f_X6_in at hf
  refine k_iload_n (pc' := 1) h dX6_in_0 rfl rfl 0 rfl ?_
  refine k_iload_n (pc' := 2) h dX6_in_1 rfl rfl 1 rfl ?_
  refine k_icmp_lt (tgt := 14) (pc' := 5) h dX6_in_2 rfl rfl (fun c1 => ?_) (fun c1 => ?_)
  · replace hf := if_t c1 hf
    refine k_iconst (pc' := 15) h dX6_in_14 rfl ci_0 ?_
    exact k_zret h r dX6_in_15 (by decide) (lf_i hf)
  · replace hf := if_f c1 hf
    refine k_iload_n (pc' := 6) h dX6_in_5 rfl rfl 0 rfl ?_
    refine k_iload_n (pc' := 7) h dX6_in_6 rfl rfl 2 rfl ?_
    refine k_icmp_gt (tgt := 14) (pc' := 10) h dX6_in_7 rfl rfl (fun c2 => ?_) (fun c2 => ?_)
    · replace hf := if_t c2 hf
      refine k_iconst (pc' := 15) h dX6_in_14 rfl ci_0 ?_
      exact k_zret h r dX6_in_15 (by decide) (lf_i hf)
    · replace hf := if_f c2 hf
      refine k_iconst (pc' := 11) h dX6_in_10 rfl ci_1 ?_
      refine k_goto (tgt := 15) h dX6_in_11 rfl ?_
      exact k_zret h r dX6_in_15 (by decide) (lf_i hf)
noncomputable def f_X6_has (x0 : Int32) (x1 : Int32) (st : St) : Option (Int32 × St) :=
  (if ((x0 >>> (x1 &&& 31)) &&& (1 : Int32)) = (1 : Int32) then (some ((1 : Int32), st)) else (some ((0 : Int32), st)))
set_option maxHeartbeats 4000000 in
theorem c_X6_has {G : GG} (l : Launch) (x0 : Int32) (x1 : Int32) (st : St)  (rr : Int32) (st' : St) (hf : f_X6_has x0 x1 st = some (rr, st')) : MM l yX6_has cX6_has 2 (some .boolean) 0 (oM G) [.int x0, .int x1] st (some (.int rr)) st' := by
  refine mk_MM (by decide +kernel) (Nat.le_of_ble_eq_true rfl) (fun X h r => ?_)
  refine k_sub (lv' := [(0, .int x0), (1, .int x1)]) [0, 1] rfl ?_
  unfold f_X6_has at hf
  refine k_iload_n (pc' := 1) h dX6_has_0 rfl rfl 0 rfl ?_
  refine k_iload_n (pc' := 2) h dX6_has_1 rfl rfl 1 rfl ?_
  refine k_ishr (pc' := 3) h dX6_has_2 rfl ?_
  refine k_iconst (pc' := 4) h dX6_has_3 rfl ci_1 ?_
  refine k_iand (pc' := 5) h dX6_has_4 rfl ?_
  refine k_iconst (pc' := 6) h dX6_has_5 rfl ci_1 ?_
  refine k_icmp_ne (tgt := 13) (pc' := 9) h dX6_has_6 rfl rfl (fun c1 => ?_) (fun c1 => ?_)
  · replace hf := if_f c1 hf
    refine k_iconst (pc' := 14) h dX6_has_13 rfl ci_0 ?_
    exact k_zret h r dX6_has_14 (by decide) (lf_i hf)
  · replace hf := if_t c1 hf
    refine k_iconst (pc' := 10) h dX6_has_9 rfl ci_1 ?_
    refine k_goto (tgt := 14) h dX6_has_10 rfl ?_
    exact k_zret h r dX6_has_14 (by decide) (lf_i hf)
noncomputable def l_X6_bits_4 (p0 : Int32) (v1 : Int32) (v2 : Int32) (st : St) : Option ((Int32 × Int32 × St) ⊕ (Int32 × Int32 × St)) :=
  (if v2 = 0 then (some (.inr (v1, v2, st))) else (lw (v2 &&& (v2 - (1 : Int32))) (fun y2 => (some (.inl (v1 + (1 : Int32), y2, st))))))
set_option maxHeartbeats 4000000 in
theorem w_X6_bits_4 {G : GG} {X : Cx} (h : Ok X (oM G) cX6_bits RX6 3 (RM 0))  (p0 : Int32)  (n : Nat) (v1 : Int32) (v2 : Int32) (st : St) (q : Int32 × Int32 × St) (hq : iter (fun v : Int32 × Int32 × St => l_X6_bits_4 p0 v.1 v.2.1 v.2.2) n (v1, v2, st) = some q) (kx : Wk X (oM G) 3 q.2.2 20 [(0, .int p0), (1, .int q.1), (2, .int q.2.1)] []) : Wk X (oM G) 3 st 4 [(0, .int p0), (1, .int v1), (2, .int v2)] [] := by
  refine iter_rule (hd := (fun v : Int32 × Int32 × St => Wk X (oM G) 3 v.2.2 4 [(0, .int p0), (1, .int v.1), (2, .int v.2.1)] [])) (ex := (fun v : Int32 × Int32 × St => Wk X (oM G) 3 v.2.2 20 [(0, .int p0), (1, .int v.1), (2, .int v.2.1)] [])) ?_ n (v1, v2, st) q hq kx
  rintro ⟨v1, v2, st⟩ oo hbv K
  show Wk X (oM G) 3 st 4 [(0, .int p0), (1, .int v1), (2, .int v2)] []
  have hf : l_X6_bits_4 p0 v1 v2 st = some oo := hbv
  unfold l_X6_bits_4 at hf
  refine k_iload_n (pc' := 5) h dX6_bits_4 rfl rfl 2 rfl ?_
  refine k_if_eq (tgt := 20) (pc' := 8) h dX6_bits_5 rfl rfl (fun c1 => ?_) (fun c1 => ?_)
  · replace hf := if_t c1 hf
    refine k_sub (lv' := [(0, .int p0), (1, .int v1), (2, .int v2)]) [0, 1, 2] rfl ?_
    exact lp_o hf K
  · replace hf := if_f c1 hf
    refine k_iinc (lv' := [(0, .int p0), (1, .int (v1 + (1 : Int32))), (2, .int v2)]) (pc' := 11) h dX6_bits_8 rfl 1 rfl (congrArg (fun z => v1 + z) ci_1) (Nat.le_of_ble_eq_true rfl) [1, 0, 2] rfl ?_
    refine k_iload_n (pc' := 12) h dX6_bits_11 rfl rfl 2 rfl ?_
    refine k_iload_n (pc' := 13) h dX6_bits_12 rfl rfl 2 rfl ?_
    refine k_iconst (pc' := 14) h dX6_bits_13 rfl ci_1 ?_
    refine k_isub (pc' := 15) h dX6_bits_14 rfl ?_
    refine k_iand (pc' := 16) h dX6_bits_15 rfl ?_
    obtain ⟨y2, hy2, hf⟩ := lw_s hf
    refine k_eqi hy2 ?_
    refine k_istore_n (lv' := [(0, .int p0), (1, .int (v1 + (1 : Int32))), (2, .int y2)]) (pc' := 17) h dX6_bits_16 rfl rfl (Nat.le_of_ble_eq_true rfl) [1, 2, 0] rfl ?_
    refine k_goto (tgt := 4) h dX6_bits_17 rfl ?_
    refine k_sub (lv' := [(0, .int p0), (1, .int (v1 + (1 : Int32))), (2, .int y2)]) [0, 1, 2] rfl ?_
    exact lp_o hf K
noncomputable def f_X6_bits (x0 : Int32) (st : St) : Option (Int32 × St) :=
  ((iter (fun v : Int32 × Int32 × St => l_X6_bits_4 x0 v.1 v.2.1 v.2.2) fuel ((0 : Int32), x0, st)).bind (fun q3 => (some (q3.1, q3.2.2))))
set_option maxHeartbeats 4000000 in
theorem c_X6_bits {G : GG} (l : Launch) (x0 : Int32) (st : St)  (rr : Int32) (st' : St) (hf : f_X6_bits x0 st = some (rr, st')) : MM l yX6_bits cX6_bits 3 (some .int) 0 (oM G) [.int x0] st (some (.int rr)) st' := by
  refine mk_MM (by decide +kernel) (Nat.le_of_ble_eq_true rfl) (fun X h r => ?_)
  refine k_sub (lv' := [(0, .int x0)]) [0] rfl ?_
  unfold f_X6_bits at hf
  refine k_iconst (pc' := 1) h dX6_bits_0 rfl ci_0 ?_
  refine k_istore_n (lv' := [(0, .int x0), (1, .int (0 : Int32))]) (pc' := 2) h dX6_bits_1 rfl rfl (Nat.le_of_ble_eq_true rfl) [1, 0] rfl ?_
  refine k_iload_n (pc' := 3) h dX6_bits_2 rfl rfl 0 rfl ?_
  refine k_istore_n (lv' := [(0, .int x0), (1, .int (0 : Int32)), (2, .int x0)]) (pc' := 4) h dX6_bits_3 rfl rfl (Nat.le_of_ble_eq_true rfl) [1, 2, 0] rfl ?_
  obtain ⟨q3, hq3, hf⟩ := bd_s hf
  refine w_X6_bits_4 h x0  fuel (0 : Int32) x0 st q3 hq3 ?_
  refine k_iload_n (pc' := 21) h dX6_bits_20 rfl rfl 1 rfl ?_
  exact k_iret h r dX6_bits_21 (lf_i hf)
noncomputable def f_X6_meets (x0 : Int32) (st : St) : Option (Int32 × St) :=
  (ls (sA st 0 (upd (st.1 0) 0 x0)) (fun s1 => (gd (inb x0 6) (gd (inb x0 6) (ls (sA s1 1 (upd (s1.1 1) x0.toNatClampNeg ((s1.1 1 x0.toNatClampNeg) + (1 : Int32)))) (fun s4 => (some ((-3 : Int32), s4))))))))
set_option maxHeartbeats 4000000 in
theorem c_X6_meets {G : GG} (l : Launch) (x0 : Int32) (st : St)  (rr : Int32) (st' : St) (hf : f_X6_meets x0 st = some (rr, st')) : MM l yX6_meets cX6_meets 2 (some .int) 0 (oM G) [.ref (al (oM G) 0), .int x0] st (some (.int rr)) st' := by
  refine mk_MM (by decide +kernel) (Nat.le_of_ble_eq_true rfl) (fun X h r => ?_)
  refine k_sub (lv' := [(0, .ref (al (oM G) 0)), (1, .int x0)]) [0, 1] rfl ?_
  unfold f_X6_meets at hf
  refine k_aload_n (pc' := 1) h dX6_meets_0 rfl rfl 0 rfl ?_
  refine k_iload_n (pc' := 2) h dX6_meets_1 rfl rfl 1 rfl ?_
  refine k_put (pc' := 5) h dX6_meets_2 rfl bM_mo fp_X6_79 sf_mo_0 sj_mo_0 ?_
  obtain ⟨s1, hs1, hf⟩ := ls_s hf
  refine k_st hs1 ?_
  refine k_aload_n (pc' := 6) h dX6_meets_5 rfl rfl 0 rfl ?_
  refine k_get (v := .ref (al (oM G) 1)) (pc' := 9) h dX6_meets_6 rfl bM_mo fl_X6_7 rfl ?_
  refine k_iload_n (pc' := 10) h dX6_meets_9 rfl rfl 1 rfl ?_
  refine k_dup2 (pc' := 11) h dX6_meets_10 rfl rfl rfl ?_
  have g2 := gd_1 hf
  replace hf := gd_2 hf
  refine k_iald (pc' := 12) h dX6_meets_11 rfl aM_1 g2 ?_
  refine k_iconst (pc' := 13) h dX6_meets_12 rfl ci_1 ?_
  refine k_iadd (pc' := 14) h dX6_meets_13 rfl ?_
  have g3 := gd_1 hf
  replace hf := gd_2 hf
  refine k_iast (pc' := 15) h dX6_meets_14 rfl aM_1 g3 ?_
  obtain ⟨s4, hs4, hf⟩ := ls_s hf
  refine k_st hs4 ?_
  refine k_bipush (pc' := 17) h dX6_meets_15 rfl cb_m3 ?_
  exact k_iret h r dX6_meets_17 (lf_i hf)
noncomputable def f_X6_finding  (st : St) : Option (Int32 × St) :=
  (some (st.1 0 0, st))
set_option maxHeartbeats 4000000 in
theorem c_X6_finding {G : GG} (l : Launch)  (st : St)  (rr : Int32) (st' : St) (hf : f_X6_finding  st = some (rr, st')) : MM l yX6_finding cX6_finding 1 (some .int) 0 (oM G) [.ref (al (oM G) 0)] st (some (.int rr)) st' := by
  refine mk_MM (by decide +kernel) (Nat.le_of_ble_eq_true rfl) (fun X h r => ?_)
  refine k_sub (lv' := [(0, .ref (al (oM G) 0))]) [0] rfl ?_
  unfold f_X6_finding at hf
  refine k_aload_n (pc' := 1) h dX6_finding_0 rfl rfl 0 rfl ?_
  refine k_get (v := .int (st.1 0 0)) (pc' := 4) h dX6_finding_1 rfl bM_mo fl_X6_79 rfl ?_
  exact k_iret h r dX6_finding_4 (lf_i hf)
noncomputable def f_X6_findings (x0 : Int32) (st : St) : Option (Int32 × St) :=
  ((f_X6_in x0 (1 : Int32) (5 : Int32) st).bind (fun q1 => (if q1.1 = 0 then (some ((-1 : Int32), q1.2)) else (gd (inb x0 6) (some (q1.2.1 1 x0.toNatClampNeg, q1.2))))))
set_option maxHeartbeats 4000000 in
theorem c_X6_findings {G : GG} (l : Launch) (x0 : Int32) (st : St)  (rr : Int32) (st' : St) (hf : f_X6_findings x0 st = some (rr, st')) : MM l yX6_findings cX6_findings 2 (some .int) 1 (oM G) [.ref (al (oM G) 0), .int x0] st (some (.int rr)) st' := by
  refine mk_MM (by decide +kernel) (Nat.le_of_ble_eq_true rfl) (fun X h r => ?_)
  refine k_sub (lv' := [(0, .ref (al (oM G) 0)), (1, .int x0)]) [0, 1] rfl ?_
  unfold f_X6_findings at hf
  refine k_iload_n (pc' := 1) h dX6_findings_0 rfl rfl 1 rfl ?_
  refine k_iconst (pc' := 2) h dX6_findings_1 rfl ci_1 ?_
  refine k_iconst (pc' := 3) h dX6_findings_2 rfl ci_5 ?_
  obtain ⟨q1, hq1, hf⟩ := bd_s hf
  refine k_callS (As := [.int x0, .int (1 : Int32), .int (5 : Int32)]) (rest := []) (rv := some (.int q1.1)) (st' := q1.2) (stk' := [.int q1.1]) (pc' := 6) h dX6_findings_3 rfl ml_X6_83 wc_X6_in ws_X6_in ⟨Nat.le_of_ble_eq_true rfl, Nat.le_of_ble_eq_true rfl⟩ rfl rfl (Nat.le_of_ble_eq_true rfl) (fun l => c_X6_in l x0 (1 : Int32) (5 : Int32) st  _ _ hq1) rfl ?_
  refine k_if_eq (tgt := 18) (pc' := 9) h dX6_findings_6 rfl rfl (fun c2 => ?_) (fun c2 => ?_)
  · replace hf := if_t c2 hf
    refine k_iconst (pc' := 19) h dX6_findings_18 rfl ci_m1 ?_
    exact k_iret h r dX6_findings_19 (lf_i hf)
  · replace hf := if_f c2 hf
    refine k_aload_n (pc' := 10) h dX6_findings_9 rfl rfl 0 rfl ?_
    refine k_get (v := .ref (al (oM G) 1)) (pc' := 13) h dX6_findings_10 rfl bM_mo fl_X6_7 rfl ?_
    refine k_iload_n (pc' := 14) h dX6_findings_13 rfl rfl 1 rfl ?_
    have g3 := gd_1 hf
    replace hf := gd_2 hf
    refine k_iald (pc' := 15) h dX6_findings_14 rfl aM_1 g3 ?_
    refine k_goto (tgt := 19) h dX6_findings_15 rfl ?_
    exact k_iret h r dX6_findings_19 (lf_i hf)
noncomputable def f_X6_tells (x0 : Int32) (x1 : Int32) (st : St) : Option (Int32 × St) :=
  (ls (sA st 0 (upd (st.1 0) 2 x0)) (fun s1 => (some (x1, s1))))
set_option maxHeartbeats 4000000 in
theorem c_X6_tells {G : GG} (l : Launch) (x0 : Int32) (x1 : Int32) (st : St)  (rr : Int32) (st' : St) (hf : f_X6_tells x0 x1 st = some (rr, st')) : MM l yX6_tells cX6_tells 3 (some .int) 0 (oM G) [.ref (al (oM G) 0), .int x0, .int x1] st (some (.int rr)) st' := by
  refine mk_MM (by decide +kernel) (Nat.le_of_ble_eq_true rfl) (fun X h r => ?_)
  refine k_sub (lv' := [(0, .ref (al (oM G) 0)), (1, .int x0), (2, .int x1)]) [0, 1, 2] rfl ?_
  unfold f_X6_tells at hf
  refine k_aload_n (pc' := 1) h dX6_tells_0 rfl rfl 0 rfl ?_
  refine k_iload_n (pc' := 2) h dX6_tells_1 rfl rfl 1 rfl ?_
  refine k_put (pc' := 5) h dX6_tells_2 rfl bM_mo fp_X6_87 sf_mo_2 sj_mo_2 ?_
  obtain ⟨s1, hs1, hf⟩ := ls_s hf
  refine k_st hs1 ?_
  refine k_iload_n (pc' := 6) h dX6_tells_5 rfl rfl 2 rfl ?_
  exact k_iret h r dX6_tells_6 (lf_i hf)
noncomputable def f_X6_asked  (st : St) : Option (Int32 × St) :=
  (some (st.1 0 2, st))
set_option maxHeartbeats 4000000 in
theorem c_X6_asked {G : GG} (l : Launch)  (st : St)  (rr : Int32) (st' : St) (hf : f_X6_asked  st = some (rr, st')) : MM l yX6_asked cX6_asked 1 (some .int) 0 (oM G) [.ref (al (oM G) 0)] st (some (.int rr)) st' := by
  refine mk_MM (by decide +kernel) (Nat.le_of_ble_eq_true rfl) (fun X h r => ?_)
  refine k_sub (lv' := [(0, .ref (al (oM G) 0))]) [0] rfl ?_
  unfold f_X6_asked at hf
  refine k_aload_n (pc' := 1) h dX6_asked_0 rfl rfl 0 rfl ?_
  refine k_get (v := .int (st.1 0 2)) (pc' := 4) h dX6_asked_1 rfl bM_mo fl_X6_87 rfl ?_
  exact k_iret h r dX6_asked_4 (lf_i hf)
noncomputable def l_X6_fraction_5 (p1 : Int32) (p2 : Int32) (v3 : Int32) (v4 : Int32) (st : St) : Option ((Int32 × Int32 × St) ⊕ (Int32 × Int32 × St)) :=
  (if v4 = 0 then (some (.inr (v3, v4, st))) else (gd (nz v4) (lw (v3 - v3 / v4 * v4) (fun y3 => (some (.inl (v4, y3, st)))))))
set_option maxHeartbeats 4000000 in
theorem w_X6_fraction_5 {G : GG} {X : Cx} (h : Ok X (oM G) cX6_fraction RX6 6 (RM 0))  (p1 : Int32) (p2 : Int32)  (n : Nat) (v3 : Int32) (v4 : Int32) (st : St) (q : Int32 × Int32 × St) (hq : iter (fun v : Int32 × Int32 × St => l_X6_fraction_5 p1 p2 v.1 v.2.1 v.2.2) n (v3, v4, st) = some q) (kx : Wk X (oM G) 6 q.2.2 26 [(0, .ref (al (oM G) 0)), (1, .int p1), (2, .int p2), (3, .int q.1), (4, .int q.2.1)] []) : Wk X (oM G) 6 st 5 [(0, .ref (al (oM G) 0)), (1, .int p1), (2, .int p2), (3, .int v3), (4, .int v4)] [] := by
  refine iter_rule (hd := (fun v : Int32 × Int32 × St => Wk X (oM G) 6 v.2.2 5 [(0, .ref (al (oM G) 0)), (1, .int p1), (2, .int p2), (3, .int v.1), (4, .int v.2.1)] [])) (ex := (fun v : Int32 × Int32 × St => Wk X (oM G) 6 v.2.2 26 [(0, .ref (al (oM G) 0)), (1, .int p1), (2, .int p2), (3, .int v.1), (4, .int v.2.1)] [])) ?_ n (v3, v4, st) q hq kx
  rintro ⟨v3, v4, st⟩ oo hbv K
  show Wk X (oM G) 6 st 5 [(0, .ref (al (oM G) 0)), (1, .int p1), (2, .int p2), (3, .int v3), (4, .int v4)] []
  have hf : l_X6_fraction_5 p1 p2 v3 v4 st = some oo := hbv
  unfold l_X6_fraction_5 at hf
  refine k_iload (pc' := 7) h dX6_fraction_5 rfl 4 rfl ?_
  refine k_if_eq (tgt := 26) (pc' := 10) h dX6_fraction_7 rfl rfl (fun c1 => ?_) (fun c1 => ?_)
  · replace hf := if_t c1 hf
    refine k_sub (lv' := [(0, .ref (al (oM G) 0)), (1, .int p1), (2, .int p2), (3, .int v3), (4, .int v4)]) [0, 1, 2, 3, 4] rfl ?_
    exact lp_o hf K
  · replace hf := if_f c1 hf
    refine k_iload_n (pc' := 11) h dX6_fraction_10 rfl rfl 3 rfl ?_
    refine k_iload (pc' := 13) h dX6_fraction_11 rfl 4 rfl ?_
    have g2 := gd_1 hf
    replace hf := gd_2 hf
    refine k_irem (pc' := 14) h dX6_fraction_13 rfl (nz_n g2) ?_
    obtain ⟨y3, hy3, hf⟩ := lw_s hf
    refine k_eqi hy3 ?_
    refine k_istore (lv' := [(0, .ref (al (oM G) 0)), (1, .int p1), (2, .int p2), (3, .int v3), (4, .int v4), (5, .int y3)]) (pc' := 16) h dX6_fraction_14 rfl (Nat.le_of_ble_eq_true rfl) [1, 2, 3, 4, 5, 0] rfl ?_
    refine k_iload (pc' := 18) h dX6_fraction_16 rfl 4 rfl ?_
    refine k_istore_n (lv' := [(0, .ref (al (oM G) 0)), (1, .int p1), (2, .int p2), (3, .int v4), (4, .int v4), (5, .int y3)]) (pc' := 19) h dX6_fraction_18 rfl rfl (Nat.le_of_ble_eq_true rfl) [1, 2, 3, 0, 4, 5] rfl ?_
    refine k_iload (pc' := 21) h dX6_fraction_19 rfl 5 rfl ?_
    refine k_istore (lv' := [(0, .ref (al (oM G) 0)), (1, .int p1), (2, .int p2), (3, .int v4), (4, .int y3), (5, .int y3)]) (pc' := 23) h dX6_fraction_21 rfl (Nat.le_of_ble_eq_true rfl) [1, 2, 3, 4, 0, 5] rfl ?_
    refine k_goto (tgt := 5) h dX6_fraction_23 rfl ?_
    refine k_sub (lv' := [(0, .ref (al (oM G) 0)), (1, .int p1), (2, .int p2), (3, .int v4), (4, .int y3)]) [0, 1, 2, 3, 4] rfl ?_
    exact lp_o hf K
noncomputable def f_X6_fraction (x0 : Int32) (x1 : Int32) (st : St) : Option (Int32 × St) :=
  ((iter (fun v : Int32 × Int32 × St => l_X6_fraction_5 x0 x1 v.1 v.2.1 v.2.2) fuel (x0, x1, st)).bind (fun q4 => (gd (nz q4.1) (ls (sL q4.2.2 0 ((x0 / q4.1).toInt64)) (fun s6 => (gd (nz q4.1) (ls (sL s6 1 ((x1 / q4.1).toInt64)) (fun s8 => (some ((1 : Int32), s8))))))))))
set_option maxHeartbeats 4000000 in
theorem c_X6_fraction {G : GG} (l : Launch) (x0 : Int32) (x1 : Int32) (st : St)  (rr : Int32) (st' : St) (hf : f_X6_fraction x0 x1 st = some (rr, st')) : MM l yX6_fraction cX6_fraction 6 (some .int) 0 (oM G) [.ref (al (oM G) 0), .int x0, .int x1] st (some (.int rr)) st' := by
  refine mk_MM (by decide +kernel) (Nat.le_of_ble_eq_true rfl) (fun X h r => ?_)
  refine k_sub (lv' := [(0, .ref (al (oM G) 0)), (1, .int x0), (2, .int x1)]) [0, 1, 2] rfl ?_
  unfold f_X6_fraction at hf
  refine k_iload_n (pc' := 1) h dX6_fraction_0 rfl rfl 1 rfl ?_
  refine k_istore_n (lv' := [(0, .ref (al (oM G) 0)), (1, .int x0), (2, .int x1), (3, .int x0)]) (pc' := 2) h dX6_fraction_1 rfl rfl (Nat.le_of_ble_eq_true rfl) [1, 2, 3, 0] rfl ?_
  refine k_iload_n (pc' := 3) h dX6_fraction_2 rfl rfl 2 rfl ?_
  refine k_istore (lv' := [(0, .ref (al (oM G) 0)), (1, .int x0), (2, .int x1), (3, .int x0), (4, .int x1)]) (pc' := 5) h dX6_fraction_3 rfl (Nat.le_of_ble_eq_true rfl) [1, 2, 3, 4, 0] rfl ?_
  obtain ⟨q4, hq4, hf⟩ := bd_s hf
  refine w_X6_fraction_5 h x0 x1  fuel x0 x1 st q4 hq4 ?_
  refine k_aload_n (pc' := 27) h dX6_fraction_26 rfl rfl 0 rfl ?_
  refine k_iload_n (pc' := 28) h dX6_fraction_27 rfl rfl 1 rfl ?_
  refine k_iload_n (pc' := 29) h dX6_fraction_28 rfl rfl 3 rfl ?_
  have g5 := gd_1 hf
  replace hf := gd_2 hf
  refine k_idiv (pc' := 30) h dX6_fraction_29 rfl (nz_n g5) ?_
  refine k_i2l (pc' := 31) h dX6_fraction_30 rfl ?_
  refine k_putl (pc' := 34) h dX6_fraction_31 rfl bM_mo nM fp_X6_90 sl_mo_3 sj_mo_3 ?_
  obtain ⟨s6, hs6, hf⟩ := ls_s hf
  refine k_st hs6 ?_
  refine k_aload_n (pc' := 35) h dX6_fraction_34 rfl rfl 0 rfl ?_
  refine k_iload_n (pc' := 36) h dX6_fraction_35 rfl rfl 2 rfl ?_
  refine k_iload_n (pc' := 37) h dX6_fraction_36 rfl rfl 3 rfl ?_
  have g7 := gd_1 hf
  replace hf := gd_2 hf
  refine k_idiv (pc' := 38) h dX6_fraction_37 rfl (nz_n g7) ?_
  refine k_i2l (pc' := 39) h dX6_fraction_38 rfl ?_
  refine k_putl (pc' := 42) h dX6_fraction_39 rfl bM_mo nM fp_X6_13 sl_mo_4 sj_mo_4 ?_
  obtain ⟨s8, hs8, hf⟩ := ls_s hf
  refine k_st hs8 ?_
  refine k_iconst (pc' := 43) h dX6_fraction_42 rfl ci_1 ?_
  exact k_iret h r dX6_fraction_43 (lf_i hf)
noncomputable def f_X6_upper  (st : St) : Option (Int64 × St) :=
  (some (st.2 0, st))
set_option maxHeartbeats 4000000 in
theorem c_X6_upper {G : GG} (l : Launch)  (st : St)  (rr : Int64) (st' : St) (hf : f_X6_upper  st = some (rr, st')) : MM l yX6_upper cX6_upper 1 (some .long) 0 (oM G) [.ref (al (oM G) 0)] st (some (.long rr)) st' := by
  refine mk_MM (by decide +kernel) (Nat.le_of_ble_eq_true rfl) (fun X h r => ?_)
  refine k_sub (lv' := [(0, .ref (al (oM G) 0))]) [0] rfl ?_
  unfold f_X6_upper at hf
  refine k_aload_n (pc' := 1) h dX6_upper_0 rfl rfl 0 rfl ?_
  refine k_get (v := .long (st.2 0)) (pc' := 4) h dX6_upper_1 rfl bM_mo fl_X6_90 rfl ?_
  exact k_lret h r dX6_upper_4 (lf_l hf)
noncomputable def f_X6_lower  (st : St) : Option (Int64 × St) :=
  (some (st.2 1, st))
set_option maxHeartbeats 4000000 in
theorem c_X6_lower {G : GG} (l : Launch)  (st : St)  (rr : Int64) (st' : St) (hf : f_X6_lower  st = some (rr, st')) : MM l yX6_lower cX6_lower 1 (some .long) 0 (oM G) [.ref (al (oM G) 0)] st (some (.long rr)) st' := by
  refine mk_MM (by decide +kernel) (Nat.le_of_ble_eq_true rfl) (fun X h r => ?_)
  refine k_sub (lv' := [(0, .ref (al (oM G) 0))]) [0] rfl ?_
  unfold f_X6_lower at hf
  refine k_aload_n (pc' := 1) h dX6_lower_0 rfl rfl 0 rfl ?_
  refine k_get (v := .long (st.2 1)) (pc' := 4) h dX6_lower_1 rfl bM_mo fl_X6_13 rfl ?_
  exact k_lret h r dX6_lower_4 (lf_l hf)
noncomputable def f_X6_isRow (x0 : Int32) (st : St) : Option (Int32 × St) :=
  ((f_X6_in x0 (0 : Int32) (5 : Int32) st).bind (fun q1 => (gd (isB q1.1) (some (q1.1, q1.2)))))
set_option maxHeartbeats 4000000 in
theorem c_X6_isRow {G : GG} (l : Launch) (x0 : Int32) (st : St)  (rr : Int32) (st' : St) (hf : f_X6_isRow x0 st = some (rr, st')) : MM l yX6_isRow cX6_isRow 1 (some .boolean) 1 (oM G) [.int x0] st (some (.int rr)) st' := by
  refine mk_MM (by decide +kernel) (Nat.le_of_ble_eq_true rfl) (fun X h r => ?_)
  refine k_sub (lv' := [(0, .int x0)]) [0] rfl ?_
  unfold f_X6_isRow at hf
  refine k_iload_n (pc' := 1) h dX6_isRow_0 rfl rfl 0 rfl ?_
  refine k_iconst (pc' := 2) h dX6_isRow_1 rfl ci_0 ?_
  refine k_iconst (pc' := 3) h dX6_isRow_2 rfl ci_5 ?_
  obtain ⟨q1, hq1, hf⟩ := bd_s hf
  refine k_callS (As := [.int x0, .int (0 : Int32), .int (5 : Int32)]) (rest := []) (rv := some (.int q1.1)) (st' := q1.2) (stk' := [.int q1.1]) (pc' := 6) h dX6_isRow_3 rfl ml_X6_83 wc_X6_in ws_X6_in ⟨Nat.le_of_ble_eq_true rfl, Nat.le_of_ble_eq_true rfl⟩ rfl rfl (Nat.le_of_ble_eq_true rfl) (fun l => c_X6_in l x0 (0 : Int32) (5 : Int32) st  _ _ hq1) rfl ?_
  have g2 := isB_or (gd_1 hf)
  replace hf := gd_2 hf
  exact k_zret h r dX6_isRow_6 g2 (lf_i hf)
noncomputable def f_X6_rowAt (x0 : Int32) (x1 : Int32) (st : St) : Option (Int32 × St) :=
  (gd (inb (((40 : Int32) * x0) + x1) 240) (some (st.1 3 (((40 : Int32) * x0) + x1).toNatClampNeg, st)))
set_option maxHeartbeats 4000000 in
theorem c_X6_rowAt {G : GG} (l : Launch) (x0 : Int32) (x1 : Int32) (st : St)  (rr : Int32) (st' : St) (hf : f_X6_rowAt x0 x1 st = some (rr, st')) : MM l yX6_rowAt cX6_rowAt 3 (some .int) 0 (oM G) [.ref (al (oM G) 0), .int x0, .int x1] st (some (.int rr)) st' := by
  refine mk_MM (by decide +kernel) (Nat.le_of_ble_eq_true rfl) (fun X h r => ?_)
  refine k_sub (lv' := [(0, .ref (al (oM G) 0)), (1, .int x0), (2, .int x1)]) [0, 1, 2] rfl ?_
  unfold f_X6_rowAt at hf
  refine k_aload_n (pc' := 1) h dX6_rowAt_0 rfl rfl 0 rfl ?_
  refine k_get (v := .ref (al (oM G) 3)) (pc' := 4) h dX6_rowAt_1 rfl bM_mo fl_X6_20 rfl ?_
  refine k_bipush (pc' := 6) h dX6_rowAt_4 rfl cb_40 ?_
  refine k_iload_n (pc' := 7) h dX6_rowAt_6 rfl rfl 1 rfl ?_
  refine k_imul (pc' := 8) h dX6_rowAt_7 rfl ?_
  refine k_iload_n (pc' := 9) h dX6_rowAt_8 rfl rfl 2 rfl ?_
  refine k_iadd (pc' := 10) h dX6_rowAt_9 rfl ?_
  have g1 := gd_1 hf
  replace hf := gd_2 hf
  refine k_iald (pc' := 11) h dX6_rowAt_10 rfl aM_3 g1 ?_
  exact k_iret h r dX6_rowAt_11 (lf_i hf)
noncomputable def l_X6_row_34 (p1 : Int32) (p2 : Int32) (v3 : Int32) (st : St) : Option ((Int32 × St) ⊕ (Int32 × St)) :=
  (if (40 : Int32) ≤ v3 then (some (.inr (v3, st))) else (gd (inb (((40 : Int32) * p1) + v3) 240) (ls (sA st 3 (upd (st.1 3) (((40 : Int32) * p1) + v3).toNatClampNeg (0 : Int32))) (fun s9 => (some (.inl (v3 + (1 : Int32), s9)))))))
set_option maxHeartbeats 4000000 in
theorem w_X6_row_34 {G : GG} {X : Cx} (h : Ok X (oM G) cX6_row RX6 4 (RM 2))  (p1 : Int32) (p2 : Int32)  (n : Nat) (v3 : Int32) (st : St) (q : Int32 × St) (hq : iter (fun v : Int32 × St => l_X6_row_34 p1 p2 v.1 v.2) n (v3, st) = some q) (kx : Wk X (oM G) 4 q.2 58 [(0, .ref (al (oM G) 0)), (1, .int p1), (2, .int p2), (3, .int q.1)] []) : Wk X (oM G) 4 st 34 [(0, .ref (al (oM G) 0)), (1, .int p1), (2, .int p2), (3, .int v3)] [] := by
  refine iter_rule (hd := (fun v : Int32 × St => Wk X (oM G) 4 v.2 34 [(0, .ref (al (oM G) 0)), (1, .int p1), (2, .int p2), (3, .int v.1)] [])) (ex := (fun v : Int32 × St => Wk X (oM G) 4 v.2 58 [(0, .ref (al (oM G) 0)), (1, .int p1), (2, .int p2), (3, .int v.1)] [])) ?_ n (v3, st) q hq kx
  rintro ⟨v3, st⟩ oo hbv K
  show Wk X (oM G) 4 st 34 [(0, .ref (al (oM G) 0)), (1, .int p1), (2, .int p2), (3, .int v3)] []
  have hf : l_X6_row_34 p1 p2 v3 st = some oo := hbv
  unfold l_X6_row_34 at hf
  refine k_iload_n (pc' := 35) h dX6_row_34 rfl rfl 3 rfl ?_
  refine k_bipush (pc' := 37) h dX6_row_35 rfl cb_40 ?_
  refine k_icmp_ge (tgt := 58) (pc' := 40) h dX6_row_37 rfl rfl (fun c7 => ?_) (fun c7 => ?_)
  · replace hf := if_t c7 hf
    refine k_sub (lv' := [(0, .ref (al (oM G) 0)), (1, .int p1), (2, .int p2), (3, .int v3)]) [0, 1, 2, 3] rfl ?_
    exact lp_o hf K
  · replace hf := if_f c7 hf
    refine k_aload_n (pc' := 41) h dX6_row_40 rfl rfl 0 rfl ?_
    refine k_get (v := .ref (al (oM G) 3)) (pc' := 44) h dX6_row_41 rfl bM_mo fl_X6_20 rfl ?_
    refine k_bipush (pc' := 46) h dX6_row_44 rfl cb_40 ?_
    refine k_iload_n (pc' := 47) h dX6_row_46 rfl rfl 1 rfl ?_
    refine k_imul (pc' := 48) h dX6_row_47 rfl ?_
    refine k_iload_n (pc' := 49) h dX6_row_48 rfl rfl 3 rfl ?_
    refine k_iadd (pc' := 50) h dX6_row_49 rfl ?_
    refine k_iconst (pc' := 51) h dX6_row_50 rfl ci_0 ?_
    have g8 := gd_1 hf
    replace hf := gd_2 hf
    refine k_iast (pc' := 52) h dX6_row_51 rfl aM_3 g8 ?_
    obtain ⟨s9, hs9, hf⟩ := ls_s hf
    refine k_st hs9 ?_
    refine k_iinc (lv' := [(0, .ref (al (oM G) 0)), (1, .int p1), (2, .int p2), (3, .int (v3 + (1 : Int32)))]) (pc' := 55) h dX6_row_52 rfl 3 rfl (congrArg (fun z => v3 + z) ci_1) (Nat.le_of_ble_eq_true rfl) [1, 2, 3, 0] rfl ?_
    refine k_goto (tgt := 34) h dX6_row_55 rfl ?_
    refine k_sub (lv' := [(0, .ref (al (oM G) 0)), (1, .int p1), (2, .int p2), (3, .int (v3 + (1 : Int32)))]) [0, 1, 2, 3] rfl ?_
    exact lp_o hf K
noncomputable def f_X6_row (x0 : Int32) (x1 : Int32) (st : St) : Option (Int32 × St) :=
  ((f_X6_isRow x0 st).bind (fun q1 => (if q1.1 = 0 then (some ((-1 : Int32), q1.2)) else (if x1 ≤ (40 : Int32) then (if 0 ≤ x1 then (gd (inb x0 6) (ls (sA q1.2 2 (upd (q1.2.1 2) x0.toNatClampNeg x1)) (fun s6 => ((iter (fun v : Int32 × St => l_X6_row_34 x0 x1 v.1 v.2) fuel ((0 : Int32), s6)).bind (fun q10 => (some (x1, q10.2))))))) else ((f_X6_meets (5 : Int32) q1.2).bind (fun q11 => (some (q11.1, q11.2))))) else (some ((-1 : Int32), q1.2))))))
set_option maxHeartbeats 4000000 in
theorem c_X6_row {G : GG} (l : Launch) (x0 : Int32) (x1 : Int32) (st : St)  (rr : Int32) (st' : St) (hf : f_X6_row x0 x1 st = some (rr, st')) : MM l yX6_row cX6_row 4 (some .int) 2 (oM G) [.ref (al (oM G) 0), .int x0, .int x1] st (some (.int rr)) st' := by
  refine mk_MM (by decide +kernel) (Nat.le_of_ble_eq_true rfl) (fun X h r => ?_)
  refine k_sub (lv' := [(0, .ref (al (oM G) 0)), (1, .int x0), (2, .int x1)]) [0, 1, 2] rfl ?_
  unfold f_X6_row at hf
  refine k_iload_n (pc' := 1) h dX6_row_0 rfl rfl 1 rfl ?_
  obtain ⟨q1, hq1, hf⟩ := bd_s hf
  refine k_callS (As := [.int x0]) (rest := []) (rv := some (.int q1.1)) (st' := q1.2) (stk' := [.int q1.1]) (pc' := 4) h dX6_row_1 rfl ml_X6_93 wc_X6_isRow ws_X6_isRow ⟨Nat.le_of_ble_eq_true rfl, Nat.le_of_ble_eq_true rfl⟩ rfl rfl (Nat.le_of_ble_eq_true rfl) (fun l => c_X6_isRow l x0 st  _ _ hq1) rfl ?_
  refine k_if_eq (tgt := 13) (pc' := 7) h dX6_row_4 rfl rfl (fun c2 => ?_) (fun c2 => ?_)
  · replace hf := if_t c2 hf
    refine k_iconst (pc' := 14) h dX6_row_13 rfl ci_m1 ?_
    exact k_iret h r dX6_row_14 (lf_i hf)
  · replace hf := if_f c2 hf
    refine k_iload_n (pc' := 8) h dX6_row_7 rfl rfl 2 rfl ?_
    refine k_bipush (pc' := 10) h dX6_row_8 rfl cb_40 ?_
    refine k_icmp_le (tgt := 15) (pc' := 13) h dX6_row_10 rfl rfl (fun c3 => ?_) (fun c3 => ?_)
    · replace hf := if_t c3 hf
      refine k_iload_n (pc' := 16) h dX6_row_15 rfl rfl 2 rfl ?_
      refine k_if_ge (tgt := 25) (pc' := 19) h dX6_row_16 rfl rfl (fun c4 => ?_) (fun c4 => ?_)
      · replace hf := if_t c4 hf
        refine k_aload_n (pc' := 26) h dX6_row_25 rfl rfl 0 rfl ?_
        refine k_get (v := .ref (al (oM G) 2)) (pc' := 29) h dX6_row_26 rfl bM_mo fl_X6_17 rfl ?_
        refine k_iload_n (pc' := 30) h dX6_row_29 rfl rfl 1 rfl ?_
        refine k_iload_n (pc' := 31) h dX6_row_30 rfl rfl 2 rfl ?_
        have g5 := gd_1 hf
        replace hf := gd_2 hf
        refine k_iast (pc' := 32) h dX6_row_31 rfl aM_2 g5 ?_
        obtain ⟨s6, hs6, hf⟩ := ls_s hf
        refine k_st hs6 ?_
        refine k_iconst (pc' := 33) h dX6_row_32 rfl ci_0 ?_
        refine k_istore_n (lv' := [(0, .ref (al (oM G) 0)), (1, .int x0), (2, .int x1), (3, .int (0 : Int32))]) (pc' := 34) h dX6_row_33 rfl rfl (Nat.le_of_ble_eq_true rfl) [1, 2, 3, 0] rfl ?_
        obtain ⟨q10, hq10, hf⟩ := bd_s hf
        refine w_X6_row_34 h x0 x1  fuel (0 : Int32) s6 q10 hq10 ?_
        refine k_iload_n (pc' := 59) h dX6_row_58 rfl rfl 2 rfl ?_
        exact k_iret h r dX6_row_59 (lf_i hf)
      · replace hf := if_f c4 hf
        refine k_aload_n (pc' := 20) h dX6_row_19 rfl rfl 0 rfl ?_
        refine k_iconst (pc' := 21) h dX6_row_20 rfl ci_5 ?_
        obtain ⟨q11, hq11, hf⟩ := bd_s hf
        refine k_callV (As := [.int (5 : Int32)]) (rest := []) (rv := some (.int q11.1)) (st' := q11.2) (stk' := [.int q11.1]) (pc' := 24) h dX6_row_21 rfl ml_X6_97 wc_X6_meets wi_X6_meets ⟨Nat.le_of_ble_eq_true rfl, Nat.le_of_ble_eq_true rfl⟩ bM_mo rfl rfl rfl rfl (Nat.le_of_ble_eq_true rfl) (fun l => c_X6_meets l (5 : Int32) q1.2  _ _ hq11) rfl ?_
        exact k_iret h r dX6_row_24 (lf_i hf)
    · replace hf := if_f c3 hf
      refine k_iconst (pc' := 14) h dX6_row_13 rfl ci_m1 ?_
      exact k_iret h r dX6_row_14 (lf_i hf)
noncomputable def f_X6_lay (x0 : Int32) (x1 : Int32) (x2 : Int32) (st : St) : Option (Int32 × St) :=
  ((f_X6_isRow x0 st).bind (fun q1 => (if q1.1 = 0 then (some ((-1 : Int32), q1.2)) else (gd (inb x0 6) (if 0 ≤ (q1.2.1 2 x0.toNatClampNeg) then (gd (inb x0 6) ((f_X6_in x1 (0 : Int32) ((q1.2.1 2 x0.toNatClampNeg) - (1 : Int32)) q1.2).bind (fun q6 => (if q6.1 = 0 then ((f_X6_meets (2 : Int32) q6.2).bind (fun q12 => (some (q12.1, q12.2)))) else ((f_X6_rowAt x0 x1 q6.2).bind (fun q8 => (gd (inb (((40 : Int32) * x0) + x1) 240) (ls (sA q8.2 3 (upd (q8.2.1 3) (((40 : Int32) * x0) + x1).toNatClampNeg x2)) (fun s10 => ((f_X6_tells q8.1 (1 : Int32) s10).bind (fun q11 => (some (q11.1, q11.2))))))))))))) else ((f_X6_meets (1 : Int32) q1.2).bind (fun q13 => (some (q13.1, q13.2)))))))))
set_option maxHeartbeats 4000000 in
theorem c_X6_lay {G : GG} (l : Launch) (x0 : Int32) (x1 : Int32) (x2 : Int32) (st : St)  (rr : Int32) (st' : St) (hf : f_X6_lay x0 x1 x2 st = some (rr, st')) : MM l yX6_lay cX6_lay 5 (some .int) 2 (oM G) [.ref (al (oM G) 0), .int x0, .int x1, .int x2] st (some (.int rr)) st' := by
  refine mk_MM (by decide +kernel) (Nat.le_of_ble_eq_true rfl) (fun X h r => ?_)
  refine k_sub (lv' := [(0, .ref (al (oM G) 0)), (1, .int x0), (2, .int x1), (3, .int x2)]) [0, 1, 2, 3] rfl ?_
  unfold f_X6_lay at hf
  refine k_iload_n (pc' := 1) h dX6_lay_0 rfl rfl 1 rfl ?_
  obtain ⟨q1, hq1, hf⟩ := bd_s hf
  refine k_callS (As := [.int x0]) (rest := []) (rv := some (.int q1.1)) (st' := q1.2) (stk' := [.int q1.1]) (pc' := 4) h dX6_lay_1 rfl ml_X6_93 wc_X6_isRow ws_X6_isRow ⟨Nat.le_of_ble_eq_true rfl, Nat.le_of_ble_eq_true rfl⟩ rfl rfl (Nat.le_of_ble_eq_true rfl) (fun l => c_X6_isRow l x0 st  _ _ hq1) rfl ?_
  refine k_if_ne (tgt := 9) (pc' := 7) h dX6_lay_4 rfl rfl (fun c2 => ?_) (fun c2 => ?_)
  · replace hf := if_f c2 hf
    refine k_aload_n (pc' := 10) h dX6_lay_9 rfl rfl 0 rfl ?_
    refine k_get (v := .ref (al (oM G) 2)) (pc' := 13) h dX6_lay_10 rfl bM_mo fl_X6_17 rfl ?_
    refine k_iload_n (pc' := 14) h dX6_lay_13 rfl rfl 1 rfl ?_
    have g3 := gd_1 hf
    replace hf := gd_2 hf
    refine k_iald (pc' := 15) h dX6_lay_14 rfl aM_2 g3 ?_
    refine k_if_ge (tgt := 24) (pc' := 18) h dX6_lay_15 rfl rfl (fun c4 => ?_) (fun c4 => ?_)
    · replace hf := if_t c4 hf
      refine k_iload_n (pc' := 25) h dX6_lay_24 rfl rfl 2 rfl ?_
      refine k_iconst (pc' := 26) h dX6_lay_25 rfl ci_0 ?_
      refine k_aload_n (pc' := 27) h dX6_lay_26 rfl rfl 0 rfl ?_
      refine k_get (v := .ref (al (oM G) 2)) (pc' := 30) h dX6_lay_27 rfl bM_mo fl_X6_17 rfl ?_
      refine k_iload_n (pc' := 31) h dX6_lay_30 rfl rfl 1 rfl ?_
      have g5 := gd_1 hf
      replace hf := gd_2 hf
      refine k_iald (pc' := 32) h dX6_lay_31 rfl aM_2 g5 ?_
      refine k_iconst (pc' := 33) h dX6_lay_32 rfl ci_1 ?_
      refine k_isub (pc' := 34) h dX6_lay_33 rfl ?_
      obtain ⟨q6, hq6, hf⟩ := bd_s hf
      refine k_callS (As := [.int x1, .int (0 : Int32), .int ((q1.2.1 2 x0.toNatClampNeg) - (1 : Int32))]) (rest := []) (rv := some (.int q6.1)) (st' := q6.2) (stk' := [.int q6.1]) (pc' := 37) h dX6_lay_34 rfl ml_X6_83 wc_X6_in ws_X6_in ⟨Nat.le_of_ble_eq_true rfl, Nat.le_of_ble_eq_true rfl⟩ rfl rfl (Nat.le_of_ble_eq_true rfl) (fun l => c_X6_in l x1 (0 : Int32) ((q1.2.1 2 x0.toNatClampNeg) - (1 : Int32)) q1.2  _ _ hq6) rfl ?_
      refine k_if_ne (tgt := 46) (pc' := 40) h dX6_lay_37 rfl rfl (fun c7 => ?_) (fun c7 => ?_)
      · replace hf := if_f c7 hf
        refine k_aload_n (pc' := 47) h dX6_lay_46 rfl rfl 0 rfl ?_
        refine k_iload_n (pc' := 48) h dX6_lay_47 rfl rfl 1 rfl ?_
        refine k_iload_n (pc' := 49) h dX6_lay_48 rfl rfl 2 rfl ?_
        obtain ⟨q8, hq8, hf⟩ := bd_s hf
        refine k_callV (As := [.int x0, .int x1]) (rest := []) (rv := some (.int q8.1)) (st' := q8.2) (stk' := [.int q8.1]) (pc' := 52) h dX6_lay_49 rfl ml_X6_101 wc_X6_rowAt wi_X6_rowAt ⟨Nat.le_of_ble_eq_true rfl, Nat.le_of_ble_eq_true rfl⟩ bM_mo rfl rfl rfl rfl (Nat.le_of_ble_eq_true rfl) (fun l => c_X6_rowAt l x0 x1 q6.2  _ _ hq8) rfl ?_
        refine k_istore (lv' := [(0, .ref (al (oM G) 0)), (1, .int x0), (2, .int x1), (3, .int x2), (4, .int q8.1)]) (pc' := 54) h dX6_lay_52 rfl (Nat.le_of_ble_eq_true rfl) [1, 2, 3, 4, 0] rfl ?_
        refine k_aload_n (pc' := 55) h dX6_lay_54 rfl rfl 0 rfl ?_
        refine k_get (v := .ref (al (oM G) 3)) (pc' := 58) h dX6_lay_55 rfl bM_mo fl_X6_20 rfl ?_
        refine k_bipush (pc' := 60) h dX6_lay_58 rfl cb_40 ?_
        refine k_iload_n (pc' := 61) h dX6_lay_60 rfl rfl 1 rfl ?_
        refine k_imul (pc' := 62) h dX6_lay_61 rfl ?_
        refine k_iload_n (pc' := 63) h dX6_lay_62 rfl rfl 2 rfl ?_
        refine k_iadd (pc' := 64) h dX6_lay_63 rfl ?_
        refine k_iload_n (pc' := 65) h dX6_lay_64 rfl rfl 3 rfl ?_
        have g9 := gd_1 hf
        replace hf := gd_2 hf
        refine k_iast (pc' := 66) h dX6_lay_65 rfl aM_3 g9 ?_
        obtain ⟨s10, hs10, hf⟩ := ls_s hf
        refine k_st hs10 ?_
        refine k_aload_n (pc' := 67) h dX6_lay_66 rfl rfl 0 rfl ?_
        refine k_iload (pc' := 69) h dX6_lay_67 rfl 4 rfl ?_
        refine k_iconst (pc' := 70) h dX6_lay_69 rfl ci_1 ?_
        obtain ⟨q11, hq11, hf⟩ := bd_s hf
        refine k_callV (As := [.int q8.1, .int (1 : Int32)]) (rest := []) (rv := some (.int q11.1)) (st' := q11.2) (stk' := [.int q11.1]) (pc' := 73) h dX6_lay_70 rfl ml_X6_105 wc_X6_tells wi_X6_tells ⟨Nat.le_of_ble_eq_true rfl, Nat.le_of_ble_eq_true rfl⟩ bM_mo rfl rfl rfl rfl (Nat.le_of_ble_eq_true rfl) (fun l => c_X6_tells l q8.1 (1 : Int32) s10  _ _ hq11) rfl ?_
        exact k_iret h r dX6_lay_73 (lf_i hf)
      · replace hf := if_t c7 hf
        refine k_aload_n (pc' := 41) h dX6_lay_40 rfl rfl 0 rfl ?_
        refine k_iconst (pc' := 42) h dX6_lay_41 rfl ci_2 ?_
        obtain ⟨q12, hq12, hf⟩ := bd_s hf
        refine k_callV (As := [.int (2 : Int32)]) (rest := []) (rv := some (.int q12.1)) (st' := q12.2) (stk' := [.int q12.1]) (pc' := 45) h dX6_lay_42 rfl ml_X6_97 wc_X6_meets wi_X6_meets ⟨Nat.le_of_ble_eq_true rfl, Nat.le_of_ble_eq_true rfl⟩ bM_mo rfl rfl rfl rfl (Nat.le_of_ble_eq_true rfl) (fun l => c_X6_meets l (2 : Int32) q6.2  _ _ hq12) rfl ?_
        exact k_iret h r dX6_lay_45 (lf_i hf)
    · replace hf := if_f c4 hf
      refine k_aload_n (pc' := 19) h dX6_lay_18 rfl rfl 0 rfl ?_
      refine k_iconst (pc' := 20) h dX6_lay_19 rfl ci_1 ?_
      obtain ⟨q13, hq13, hf⟩ := bd_s hf
      refine k_callV (As := [.int (1 : Int32)]) (rest := []) (rv := some (.int q13.1)) (st' := q13.2) (stk' := [.int q13.1]) (pc' := 23) h dX6_lay_20 rfl ml_X6_97 wc_X6_meets wi_X6_meets ⟨Nat.le_of_ble_eq_true rfl, Nat.le_of_ble_eq_true rfl⟩ bM_mo rfl rfl rfl rfl (Nat.le_of_ble_eq_true rfl) (fun l => c_X6_meets l (1 : Int32) q1.2  _ _ hq13) rfl ?_
      exact k_iret h r dX6_lay_23 (lf_i hf)
  · replace hf := if_t c2 hf
    refine k_iconst (pc' := 8) h dX6_lay_7 rfl ci_m1 ?_
    exact k_iret h r dX6_lay_8 (lf_i hf)
noncomputable def f_X6_at (x0 : Int32) (x1 : Int32) (st : St) : Option (Int32 × St) :=
  ((f_X6_isRow x0 st).bind (fun q1 => (if q1.1 = 0 then (some ((-1 : Int32), q1.2)) else (gd (inb x0 6) (if 0 ≤ (q1.2.1 2 x0.toNatClampNeg) then (gd (inb x0 6) ((f_X6_in x1 (0 : Int32) ((q1.2.1 2 x0.toNatClampNeg) - (1 : Int32)) q1.2).bind (fun q6 => (if q6.1 = 0 then ((f_X6_meets (2 : Int32) q6.2).bind (fun q8 => (some (q8.1, q8.2)))) else ((f_X6_rowAt x0 x1 q6.2).bind (fun q9 => ((f_X6_tells q9.1 (1 : Int32) q9.2).bind (fun q10 => (some (q10.1, q10.2)))))))))) else ((f_X6_meets (1 : Int32) q1.2).bind (fun q11 => (some (q11.1, q11.2)))))))))
set_option maxHeartbeats 4000000 in
theorem c_X6_at {G : GG} (l : Launch) (x0 : Int32) (x1 : Int32) (st : St)  (rr : Int32) (st' : St) (hf : f_X6_at x0 x1 st = some (rr, st')) : MM l yX6_at cX6_at 3 (some .int) 2 (oM G) [.ref (al (oM G) 0), .int x0, .int x1] st (some (.int rr)) st' := by
  refine mk_MM (by decide +kernel) (Nat.le_of_ble_eq_true rfl) (fun X h r => ?_)
  refine k_sub (lv' := [(0, .ref (al (oM G) 0)), (1, .int x0), (2, .int x1)]) [0, 1, 2] rfl ?_
  unfold f_X6_at at hf
  refine k_iload_n (pc' := 1) h dX6_at_0 rfl rfl 1 rfl ?_
  obtain ⟨q1, hq1, hf⟩ := bd_s hf
  refine k_callS (As := [.int x0]) (rest := []) (rv := some (.int q1.1)) (st' := q1.2) (stk' := [.int q1.1]) (pc' := 4) h dX6_at_1 rfl ml_X6_93 wc_X6_isRow ws_X6_isRow ⟨Nat.le_of_ble_eq_true rfl, Nat.le_of_ble_eq_true rfl⟩ rfl rfl (Nat.le_of_ble_eq_true rfl) (fun l => c_X6_isRow l x0 st  _ _ hq1) rfl ?_
  refine k_if_ne (tgt := 9) (pc' := 7) h dX6_at_4 rfl rfl (fun c2 => ?_) (fun c2 => ?_)
  · replace hf := if_f c2 hf
    refine k_aload_n (pc' := 10) h dX6_at_9 rfl rfl 0 rfl ?_
    refine k_get (v := .ref (al (oM G) 2)) (pc' := 13) h dX6_at_10 rfl bM_mo fl_X6_17 rfl ?_
    refine k_iload_n (pc' := 14) h dX6_at_13 rfl rfl 1 rfl ?_
    have g3 := gd_1 hf
    replace hf := gd_2 hf
    refine k_iald (pc' := 15) h dX6_at_14 rfl aM_2 g3 ?_
    refine k_if_ge (tgt := 24) (pc' := 18) h dX6_at_15 rfl rfl (fun c4 => ?_) (fun c4 => ?_)
    · replace hf := if_t c4 hf
      refine k_iload_n (pc' := 25) h dX6_at_24 rfl rfl 2 rfl ?_
      refine k_iconst (pc' := 26) h dX6_at_25 rfl ci_0 ?_
      refine k_aload_n (pc' := 27) h dX6_at_26 rfl rfl 0 rfl ?_
      refine k_get (v := .ref (al (oM G) 2)) (pc' := 30) h dX6_at_27 rfl bM_mo fl_X6_17 rfl ?_
      refine k_iload_n (pc' := 31) h dX6_at_30 rfl rfl 1 rfl ?_
      have g5 := gd_1 hf
      replace hf := gd_2 hf
      refine k_iald (pc' := 32) h dX6_at_31 rfl aM_2 g5 ?_
      refine k_iconst (pc' := 33) h dX6_at_32 rfl ci_1 ?_
      refine k_isub (pc' := 34) h dX6_at_33 rfl ?_
      obtain ⟨q6, hq6, hf⟩ := bd_s hf
      refine k_callS (As := [.int x1, .int (0 : Int32), .int ((q1.2.1 2 x0.toNatClampNeg) - (1 : Int32))]) (rest := []) (rv := some (.int q6.1)) (st' := q6.2) (stk' := [.int q6.1]) (pc' := 37) h dX6_at_34 rfl ml_X6_83 wc_X6_in ws_X6_in ⟨Nat.le_of_ble_eq_true rfl, Nat.le_of_ble_eq_true rfl⟩ rfl rfl (Nat.le_of_ble_eq_true rfl) (fun l => c_X6_in l x1 (0 : Int32) ((q1.2.1 2 x0.toNatClampNeg) - (1 : Int32)) q1.2  _ _ hq6) rfl ?_
      refine k_if_eq (tgt := 54) (pc' := 40) h dX6_at_37 rfl rfl (fun c7 => ?_) (fun c7 => ?_)
      · replace hf := if_t c7 hf
        refine k_aload_n (pc' := 55) h dX6_at_54 rfl rfl 0 rfl ?_
        refine k_iconst (pc' := 56) h dX6_at_55 rfl ci_2 ?_
        obtain ⟨q8, hq8, hf⟩ := bd_s hf
        refine k_callV (As := [.int (2 : Int32)]) (rest := []) (rv := some (.int q8.1)) (st' := q8.2) (stk' := [.int q8.1]) (pc' := 59) h dX6_at_56 rfl ml_X6_97 wc_X6_meets wi_X6_meets ⟨Nat.le_of_ble_eq_true rfl, Nat.le_of_ble_eq_true rfl⟩ bM_mo rfl rfl rfl rfl (Nat.le_of_ble_eq_true rfl) (fun l => c_X6_meets l (2 : Int32) q6.2  _ _ hq8) rfl ?_
        exact k_iret h r dX6_at_59 (lf_i hf)
      · replace hf := if_f c7 hf
        refine k_aload_n (pc' := 41) h dX6_at_40 rfl rfl 0 rfl ?_
        refine k_aload_n (pc' := 42) h dX6_at_41 rfl rfl 0 rfl ?_
        refine k_iload_n (pc' := 43) h dX6_at_42 rfl rfl 1 rfl ?_
        refine k_iload_n (pc' := 44) h dX6_at_43 rfl rfl 2 rfl ?_
        obtain ⟨q9, hq9, hf⟩ := bd_s hf
        refine k_callV (As := [.int x0, .int x1]) (rest := [.ref (al (oM G) 0)]) (rv := some (.int q9.1)) (st' := q9.2) (stk' := [.int q9.1, .ref (al (oM G) 0)]) (pc' := 47) h dX6_at_44 rfl ml_X6_101 wc_X6_rowAt wi_X6_rowAt ⟨Nat.le_of_ble_eq_true rfl, Nat.le_of_ble_eq_true rfl⟩ bM_mo rfl rfl rfl rfl (Nat.le_of_ble_eq_true rfl) (fun l => c_X6_rowAt l x0 x1 q6.2  _ _ hq9) rfl ?_
        refine k_iconst (pc' := 48) h dX6_at_47 rfl ci_1 ?_
        obtain ⟨q10, hq10, hf⟩ := bd_s hf
        refine k_callV (As := [.int q9.1, .int (1 : Int32)]) (rest := []) (rv := some (.int q10.1)) (st' := q10.2) (stk' := [.int q10.1]) (pc' := 51) h dX6_at_48 rfl ml_X6_105 wc_X6_tells wi_X6_tells ⟨Nat.le_of_ble_eq_true rfl, Nat.le_of_ble_eq_true rfl⟩ bM_mo rfl rfl rfl rfl (Nat.le_of_ble_eq_true rfl) (fun l => c_X6_tells l q9.1 (1 : Int32) q9.2  _ _ hq10) rfl ?_
        refine k_goto (tgt := 59) h dX6_at_51 rfl ?_
        exact k_iret h r dX6_at_59 (lf_i hf)
    · replace hf := if_f c4 hf
      refine k_aload_n (pc' := 19) h dX6_at_18 rfl rfl 0 rfl ?_
      refine k_iconst (pc' := 20) h dX6_at_19 rfl ci_1 ?_
      obtain ⟨q11, hq11, hf⟩ := bd_s hf
      refine k_callV (As := [.int (1 : Int32)]) (rest := []) (rv := some (.int q11.1)) (st' := q11.2) (stk' := [.int q11.1]) (pc' := 23) h dX6_at_20 rfl ml_X6_97 wc_X6_meets wi_X6_meets ⟨Nat.le_of_ble_eq_true rfl, Nat.le_of_ble_eq_true rfl⟩ bM_mo rfl rfl rfl rfl (Nat.le_of_ble_eq_true rfl) (fun l => c_X6_meets l (1 : Int32) q1.2  _ _ hq11) rfl ?_
      exact k_iret h r dX6_at_23 (lf_i hf)
  · replace hf := if_t c2 hf
    refine k_iconst (pc' := 8) h dX6_at_7 rfl ci_m1 ?_
    exact k_iret h r dX6_at_8 (lf_i hf)
noncomputable def f_X6_tear (x0 : Int32) (st : St) : Option (Int32 × St) :=
  ((f_X6_isRow x0 st).bind (fun q1 => (if q1.1 = 0 then (some ((-1 : Int32), q1.2)) else (gd (inb x0 6) (if 0 ≤ (q1.2.1 2 x0.toNatClampNeg) then (gd (inb x0 6) (ls (sA q1.2 2 (upd (q1.2.1 2) x0.toNatClampNeg (-1 : Int32))) (fun s6 => (some ((1 : Int32), s6))))) else ((f_X6_meets (1 : Int32) q1.2).bind (fun q7 => (some (q7.1, q7.2)))))))))
set_option maxHeartbeats 4000000 in
theorem c_X6_tear {G : GG} (l : Launch) (x0 : Int32) (st : St)  (rr : Int32) (st' : St) (hf : f_X6_tear x0 st = some (rr, st')) : MM l yX6_tear cX6_tear 2 (some .int) 2 (oM G) [.ref (al (oM G) 0), .int x0] st (some (.int rr)) st' := by
  refine mk_MM (by decide +kernel) (Nat.le_of_ble_eq_true rfl) (fun X h r => ?_)
  refine k_sub (lv' := [(0, .ref (al (oM G) 0)), (1, .int x0)]) [0, 1] rfl ?_
  unfold f_X6_tear at hf
  refine k_iload_n (pc' := 1) h dX6_tear_0 rfl rfl 1 rfl ?_
  obtain ⟨q1, hq1, hf⟩ := bd_s hf
  refine k_callS (As := [.int x0]) (rest := []) (rv := some (.int q1.1)) (st' := q1.2) (stk' := [.int q1.1]) (pc' := 4) h dX6_tear_1 rfl ml_X6_93 wc_X6_isRow ws_X6_isRow ⟨Nat.le_of_ble_eq_true rfl, Nat.le_of_ble_eq_true rfl⟩ rfl rfl (Nat.le_of_ble_eq_true rfl) (fun l => c_X6_isRow l x0 st  _ _ hq1) rfl ?_
  refine k_if_ne (tgt := 9) (pc' := 7) h dX6_tear_4 rfl rfl (fun c2 => ?_) (fun c2 => ?_)
  · replace hf := if_f c2 hf
    refine k_aload_n (pc' := 10) h dX6_tear_9 rfl rfl 0 rfl ?_
    refine k_get (v := .ref (al (oM G) 2)) (pc' := 13) h dX6_tear_10 rfl bM_mo fl_X6_17 rfl ?_
    refine k_iload_n (pc' := 14) h dX6_tear_13 rfl rfl 1 rfl ?_
    have g3 := gd_1 hf
    replace hf := gd_2 hf
    refine k_iald (pc' := 15) h dX6_tear_14 rfl aM_2 g3 ?_
    refine k_if_ge (tgt := 24) (pc' := 18) h dX6_tear_15 rfl rfl (fun c4 => ?_) (fun c4 => ?_)
    · replace hf := if_t c4 hf
      refine k_aload_n (pc' := 25) h dX6_tear_24 rfl rfl 0 rfl ?_
      refine k_get (v := .ref (al (oM G) 2)) (pc' := 28) h dX6_tear_25 rfl bM_mo fl_X6_17 rfl ?_
      refine k_iload_n (pc' := 29) h dX6_tear_28 rfl rfl 1 rfl ?_
      refine k_iconst (pc' := 30) h dX6_tear_29 rfl ci_m1 ?_
      have g5 := gd_1 hf
      replace hf := gd_2 hf
      refine k_iast (pc' := 31) h dX6_tear_30 rfl aM_2 g5 ?_
      obtain ⟨s6, hs6, hf⟩ := ls_s hf
      refine k_st hs6 ?_
      refine k_iconst (pc' := 32) h dX6_tear_31 rfl ci_1 ?_
      exact k_iret h r dX6_tear_32 (lf_i hf)
    · replace hf := if_f c4 hf
      refine k_aload_n (pc' := 19) h dX6_tear_18 rfl rfl 0 rfl ?_
      refine k_iconst (pc' := 20) h dX6_tear_19 rfl ci_1 ?_
      obtain ⟨q7, hq7, hf⟩ := bd_s hf
      refine k_callV (As := [.int (1 : Int32)]) (rest := []) (rv := some (.int q7.1)) (st' := q7.2) (stk' := [.int q7.1]) (pc' := 23) h dX6_tear_20 rfl ml_X6_97 wc_X6_meets wi_X6_meets ⟨Nat.le_of_ble_eq_true rfl, Nat.le_of_ble_eq_true rfl⟩ bM_mo rfl rfl rfl rfl (Nat.le_of_ble_eq_true rfl) (fun l => c_X6_meets l (1 : Int32) q1.2  _ _ hq7) rfl ?_
      exact k_iret h r dX6_tear_23 (lf_i hf)
  · replace hf := if_t c2 hf
    refine k_iconst (pc' := 8) h dX6_tear_7 rfl ci_m1 ?_
    exact k_iret h r dX6_tear_8 (lf_i hf)
noncomputable def l_X6_copy_104 (p1 : Int32) (p2 : Int32) (p3 : Int32) (p4 : Int32) (p5 : Int32) (v6 : Int32) (st : St) : Option ((Int32 × St) ⊕ (Int32 × St)) :=
  (if p5 ≤ v6 then (some (.inr (v6, st))) else ((f_X6_rowAt p1 (p2 + v6) st).bind (fun q21 => (gd (inb v6 40) (ls (sA q21.2 4 (upd (q21.2.1 4) v6.toNatClampNeg q21.1)) (fun s23 => (some (.inl (v6 + (1 : Int32), s23)))))))))
set_option maxHeartbeats 4000000 in
theorem w_X6_copy_104 {G : GG} {X : Cx} (h : Ok X (oM G) cX6_copy RX6 7 (RM 2))  (p1 : Int32) (p2 : Int32) (p3 : Int32) (p4 : Int32) (p5 : Int32)  (n : Nat) (v6 : Int32) (st : St) (q : Int32 × St) (hq : iter (fun v : Int32 × St => l_X6_copy_104 p1 p2 p3 p4 p5 v.1 v.2) n (v6, st) = some q) (kx : Wk X (oM G) 7 q.2 133 [(0, .ref (al (oM G) 0)), (1, .int p1), (2, .int p2), (3, .int p3), (4, .int p4), (5, .int p5), (6, .int q.1)] []) : Wk X (oM G) 7 st 104 [(0, .ref (al (oM G) 0)), (1, .int p1), (2, .int p2), (3, .int p3), (4, .int p4), (5, .int p5), (6, .int v6)] [] := by
  refine iter_rule (hd := (fun v : Int32 × St => Wk X (oM G) 7 v.2 104 [(0, .ref (al (oM G) 0)), (1, .int p1), (2, .int p2), (3, .int p3), (4, .int p4), (5, .int p5), (6, .int v.1)] [])) (ex := (fun v : Int32 × St => Wk X (oM G) 7 v.2 133 [(0, .ref (al (oM G) 0)), (1, .int p1), (2, .int p2), (3, .int p3), (4, .int p4), (5, .int p5), (6, .int v.1)] [])) ?_ n (v6, st) q hq kx
  rintro ⟨v6, st⟩ oo hbv K
  show Wk X (oM G) 7 st 104 [(0, .ref (al (oM G) 0)), (1, .int p1), (2, .int p2), (3, .int p3), (4, .int p4), (5, .int p5), (6, .int v6)] []
  have hf : l_X6_copy_104 p1 p2 p3 p4 p5 v6 st = some oo := hbv
  unfold l_X6_copy_104 at hf
  refine k_iload (pc' := 106) h dX6_copy_104 rfl 6 rfl ?_
  refine k_iload (pc' := 108) h dX6_copy_106 rfl 5 rfl ?_
  refine k_icmp_ge (tgt := 133) (pc' := 111) h dX6_copy_108 rfl rfl (fun c20 => ?_) (fun c20 => ?_)
  · replace hf := if_t c20 hf
    refine k_sub (lv' := [(0, .ref (al (oM G) 0)), (1, .int p1), (2, .int p2), (3, .int p3), (4, .int p4), (5, .int p5), (6, .int v6)]) [0, 1, 2, 3, 4, 5, 6] rfl ?_
    exact lp_o hf K
  · replace hf := if_f c20 hf
    refine k_aload_n (pc' := 112) h dX6_copy_111 rfl rfl 0 rfl ?_
    refine k_get (v := .ref (al (oM G) 4)) (pc' := 115) h dX6_copy_112 rfl bM_mo fl_X6_23 rfl ?_
    refine k_iload (pc' := 117) h dX6_copy_115 rfl 6 rfl ?_
    refine k_aload_n (pc' := 118) h dX6_copy_117 rfl rfl 0 rfl ?_
    refine k_iload_n (pc' := 119) h dX6_copy_118 rfl rfl 1 rfl ?_
    refine k_iload_n (pc' := 120) h dX6_copy_119 rfl rfl 2 rfl ?_
    refine k_iload (pc' := 122) h dX6_copy_120 rfl 6 rfl ?_
    refine k_iadd (pc' := 123) h dX6_copy_122 rfl ?_
    obtain ⟨q21, hq21, hf⟩ := bd_s hf
    refine k_callV (As := [.int p1, .int (p2 + v6)]) (rest := [.int v6, .ref (al (oM G) 4)]) (rv := some (.int q21.1)) (st' := q21.2) (stk' := [.int q21.1, .int v6, .ref (al (oM G) 4)]) (pc' := 126) h dX6_copy_123 rfl ml_X6_101 wc_X6_rowAt wi_X6_rowAt ⟨Nat.le_of_ble_eq_true rfl, Nat.le_of_ble_eq_true rfl⟩ bM_mo rfl rfl rfl rfl (Nat.le_of_ble_eq_true rfl) (fun l => c_X6_rowAt l p1 (p2 + v6) st  _ _ hq21) rfl ?_
    have g22 := gd_1 hf
    replace hf := gd_2 hf
    refine k_iast (pc' := 127) h dX6_copy_126 rfl aM_4 g22 ?_
    obtain ⟨s23, hs23, hf⟩ := ls_s hf
    refine k_st hs23 ?_
    refine k_iinc (lv' := [(0, .ref (al (oM G) 0)), (1, .int p1), (2, .int p2), (3, .int p3), (4, .int p4), (5, .int p5), (6, .int (v6 + (1 : Int32)))]) (pc' := 130) h dX6_copy_127 rfl 6 rfl (congrArg (fun z => v6 + z) ci_1) (Nat.le_of_ble_eq_true rfl) [1, 2, 3, 4, 5, 6, 0] rfl ?_
    refine k_goto (tgt := 104) h dX6_copy_130 rfl ?_
    refine k_sub (lv' := [(0, .ref (al (oM G) 0)), (1, .int p1), (2, .int p2), (3, .int p3), (4, .int p4), (5, .int p5), (6, .int (v6 + (1 : Int32)))]) [0, 1, 2, 3, 4, 5, 6] rfl ?_
    exact lp_o hf K
noncomputable def l_X6_copy_136 (p1 : Int32) (p2 : Int32) (p3 : Int32) (p4 : Int32) (p5 : Int32) (v6 : Int32) (st : St) : Option ((Int32 × St) ⊕ (Int32 × St)) :=
  (if p5 ≤ v6 then (some (.inr (v6, st))) else (gd (inb v6 40) (gd (inb ((((40 : Int32) * p3) + p4) + v6) 240) (ls (sA st 3 (upd (st.1 3) ((((40 : Int32) * p3) + p4) + v6).toNatClampNeg (st.1 4 v6.toNatClampNeg))) (fun s28 => (some (.inl (v6 + (1 : Int32), s28))))))))
set_option maxHeartbeats 4000000 in
theorem w_X6_copy_136 {G : GG} {X : Cx} (h : Ok X (oM G) cX6_copy RX6 7 (RM 2))  (p1 : Int32) (p2 : Int32) (p3 : Int32) (p4 : Int32) (p5 : Int32)  (n : Nat) (v6 : Int32) (st : St) (q : Int32 × St) (hq : iter (fun v : Int32 × St => l_X6_copy_136 p1 p2 p3 p4 p5 v.1 v.2) n (v6, st) = some q) (kx : Wk X (oM G) 7 q.2 171 [(0, .ref (al (oM G) 0)), (1, .int p1), (2, .int p2), (3, .int p3), (4, .int p4), (5, .int p5), (6, .int q.1)] []) : Wk X (oM G) 7 st 136 [(0, .ref (al (oM G) 0)), (1, .int p1), (2, .int p2), (3, .int p3), (4, .int p4), (5, .int p5), (6, .int v6)] [] := by
  refine iter_rule (hd := (fun v : Int32 × St => Wk X (oM G) 7 v.2 136 [(0, .ref (al (oM G) 0)), (1, .int p1), (2, .int p2), (3, .int p3), (4, .int p4), (5, .int p5), (6, .int v.1)] [])) (ex := (fun v : Int32 × St => Wk X (oM G) 7 v.2 171 [(0, .ref (al (oM G) 0)), (1, .int p1), (2, .int p2), (3, .int p3), (4, .int p4), (5, .int p5), (6, .int v.1)] [])) ?_ n (v6, st) q hq kx
  rintro ⟨v6, st⟩ oo hbv K
  show Wk X (oM G) 7 st 136 [(0, .ref (al (oM G) 0)), (1, .int p1), (2, .int p2), (3, .int p3), (4, .int p4), (5, .int p5), (6, .int v6)] []
  have hf : l_X6_copy_136 p1 p2 p3 p4 p5 v6 st = some oo := hbv
  unfold l_X6_copy_136 at hf
  refine k_iload (pc' := 138) h dX6_copy_136 rfl 6 rfl ?_
  refine k_iload (pc' := 140) h dX6_copy_138 rfl 5 rfl ?_
  refine k_icmp_ge (tgt := 171) (pc' := 143) h dX6_copy_140 rfl rfl (fun c25 => ?_) (fun c25 => ?_)
  · replace hf := if_t c25 hf
    refine k_sub (lv' := [(0, .ref (al (oM G) 0)), (1, .int p1), (2, .int p2), (3, .int p3), (4, .int p4), (5, .int p5), (6, .int v6)]) [0, 1, 2, 3, 4, 5, 6] rfl ?_
    exact lp_o hf K
  · replace hf := if_f c25 hf
    refine k_aload_n (pc' := 144) h dX6_copy_143 rfl rfl 0 rfl ?_
    refine k_get (v := .ref (al (oM G) 3)) (pc' := 147) h dX6_copy_144 rfl bM_mo fl_X6_20 rfl ?_
    refine k_bipush (pc' := 149) h dX6_copy_147 rfl cb_40 ?_
    refine k_iload_n (pc' := 150) h dX6_copy_149 rfl rfl 3 rfl ?_
    refine k_imul (pc' := 151) h dX6_copy_150 rfl ?_
    refine k_iload (pc' := 153) h dX6_copy_151 rfl 4 rfl ?_
    refine k_iadd (pc' := 154) h dX6_copy_153 rfl ?_
    refine k_iload (pc' := 156) h dX6_copy_154 rfl 6 rfl ?_
    refine k_iadd (pc' := 157) h dX6_copy_156 rfl ?_
    refine k_aload_n (pc' := 158) h dX6_copy_157 rfl rfl 0 rfl ?_
    refine k_get (v := .ref (al (oM G) 4)) (pc' := 161) h dX6_copy_158 rfl bM_mo fl_X6_23 rfl ?_
    refine k_iload (pc' := 163) h dX6_copy_161 rfl 6 rfl ?_
    have g26 := gd_1 hf
    replace hf := gd_2 hf
    refine k_iald (pc' := 164) h dX6_copy_163 rfl aM_4 g26 ?_
    have g27 := gd_1 hf
    replace hf := gd_2 hf
    refine k_iast (pc' := 165) h dX6_copy_164 rfl aM_3 g27 ?_
    obtain ⟨s28, hs28, hf⟩ := ls_s hf
    refine k_st hs28 ?_
    refine k_iinc (lv' := [(0, .ref (al (oM G) 0)), (1, .int p1), (2, .int p2), (3, .int p3), (4, .int p4), (5, .int p5), (6, .int (v6 + (1 : Int32)))]) (pc' := 168) h dX6_copy_165 rfl 6 rfl (congrArg (fun z => v6 + z) ci_1) (Nat.le_of_ble_eq_true rfl) [1, 2, 3, 4, 5, 6, 0] rfl ?_
    refine k_goto (tgt := 136) h dX6_copy_168 rfl ?_
    refine k_sub (lv' := [(0, .ref (al (oM G) 0)), (1, .int p1), (2, .int p2), (3, .int p3), (4, .int p4), (5, .int p5), (6, .int (v6 + (1 : Int32)))]) [0, 1, 2, 3, 4, 5, 6] rfl ?_
    exact lp_o hf K
noncomputable def f_X6_copy (x0 : Int32) (x1 : Int32) (x2 : Int32) (x3 : Int32) (x4 : Int32) (st : St) : Option (Int32 × St) :=
  ((f_X6_isRow x0 st).bind (fun q1 => (if q1.1 = 0 then (some ((-1 : Int32), q1.2)) else ((f_X6_isRow x2 q1.2).bind (fun q3 => (if q3.1 = 0 then (some ((-1 : Int32), q3.2)) else (if 0 ≤ x4 then (gd (inb x0 6) (if (q3.2.1 2 x0.toNatClampNeg) < 0 then ((f_X6_meets (1 : Int32) q3.2).bind (fun q8 => (some (q8.1, q8.2)))) else (gd (inb x2 6) (if 0 ≤ (q3.2.1 2 x2.toNatClampNeg) then (if x1 < 0 then ((f_X6_meets (2 : Int32) q3.2).bind (fun q12 => (some (q12.1, q12.2)))) else (if x3 < 0 then ((f_X6_meets (2 : Int32) q3.2).bind (fun q14 => (some (q14.1, q14.2)))) else (gd (inb x0 6) (if 0 < (lg_cmp (x1.toInt64 + x4.toInt64) ((q3.2.1 2 x0.toNatClampNeg).toInt64)) then ((f_X6_meets (2 : Int32) q3.2).bind (fun q17 => (some (q17.1, q17.2)))) else (gd (inb x2 6) (if (lg_cmp (x3.toInt64 + x4.toInt64) ((q3.2.1 2 x2.toNatClampNeg).toInt64)) ≤ 0 then ((iter (fun v : Int32 × St => l_X6_copy_104 x0 x1 x2 x3 x4 v.1 v.2) fuel ((0 : Int32), q3.2)).bind (fun q24 => ((iter (fun v : Int32 × St => l_X6_copy_136 x0 x1 x2 x3 x4 v.1 v.2) fuel ((0 : Int32), q24.2)).bind (fun q29 => (some ((1 : Int32), q29.2)))))) else ((f_X6_meets (2 : Int32) q3.2).bind (fun q30 => (some (q30.1, q30.2)))))))))) else ((f_X6_meets (1 : Int32) q3.2).bind (fun q31 => (some (q31.1, q31.2)))))))) else ((f_X6_meets (5 : Int32) q3.2).bind (fun q32 => (some (q32.1, q32.2)))))))))))
set_option maxHeartbeats 4000000 in
theorem c_X6_copy {G : GG} (l : Launch) (x0 : Int32) (x1 : Int32) (x2 : Int32) (x3 : Int32) (x4 : Int32) (st : St)  (rr : Int32) (st' : St) (hf : f_X6_copy x0 x1 x2 x3 x4 st = some (rr, st')) : MM l yX6_copy cX6_copy 7 (some .int) 2 (oM G) [.ref (al (oM G) 0), .int x0, .int x1, .int x2, .int x3, .int x4] st (some (.int rr)) st' := by
  refine mk_MM (by decide +kernel) (Nat.le_of_ble_eq_true rfl) (fun X h r => ?_)
  refine k_sub (lv' := [(0, .ref (al (oM G) 0)), (1, .int x0), (2, .int x1), (3, .int x2), (4, .int x3), (5, .int x4)]) [0, 1, 2, 3, 4, 5] rfl ?_
  unfold f_X6_copy at hf
  refine k_iload_n (pc' := 1) h dX6_copy_0 rfl rfl 1 rfl ?_
  obtain ⟨q1, hq1, hf⟩ := bd_s hf
  refine k_callS (As := [.int x0]) (rest := []) (rv := some (.int q1.1)) (st' := q1.2) (stk' := [.int q1.1]) (pc' := 4) h dX6_copy_1 rfl ml_X6_93 wc_X6_isRow ws_X6_isRow ⟨Nat.le_of_ble_eq_true rfl, Nat.le_of_ble_eq_true rfl⟩ rfl rfl (Nat.le_of_ble_eq_true rfl) (fun l => c_X6_isRow l x0 st  _ _ hq1) rfl ?_
  refine k_if_eq (tgt := 14) (pc' := 7) h dX6_copy_4 rfl rfl (fun c2 => ?_) (fun c2 => ?_)
  · replace hf := if_t c2 hf
    refine k_iconst (pc' := 15) h dX6_copy_14 rfl ci_m1 ?_
    exact k_iret h r dX6_copy_15 (lf_i hf)
  · replace hf := if_f c2 hf
    refine k_iload_n (pc' := 8) h dX6_copy_7 rfl rfl 3 rfl ?_
    obtain ⟨q3, hq3, hf⟩ := bd_s hf
    refine k_callS (As := [.int x2]) (rest := []) (rv := some (.int q3.1)) (st' := q3.2) (stk' := [.int q3.1]) (pc' := 11) h dX6_copy_8 rfl ml_X6_93 wc_X6_isRow ws_X6_isRow ⟨Nat.le_of_ble_eq_true rfl, Nat.le_of_ble_eq_true rfl⟩ rfl rfl (Nat.le_of_ble_eq_true rfl) (fun l => c_X6_isRow l x2 q1.2  _ _ hq3) rfl ?_
    refine k_if_ne (tgt := 16) (pc' := 14) h dX6_copy_11 rfl rfl (fun c4 => ?_) (fun c4 => ?_)
    · replace hf := if_f c4 hf
      refine k_iload (pc' := 18) h dX6_copy_16 rfl 5 rfl ?_
      refine k_if_ge (tgt := 27) (pc' := 21) h dX6_copy_18 rfl rfl (fun c5 => ?_) (fun c5 => ?_)
      · replace hf := if_t c5 hf
        refine k_aload_n (pc' := 28) h dX6_copy_27 rfl rfl 0 rfl ?_
        refine k_get (v := .ref (al (oM G) 2)) (pc' := 31) h dX6_copy_28 rfl bM_mo fl_X6_17 rfl ?_
        refine k_iload_n (pc' := 32) h dX6_copy_31 rfl rfl 1 rfl ?_
        have g6 := gd_1 hf
        replace hf := gd_2 hf
        refine k_iald (pc' := 33) h dX6_copy_32 rfl aM_2 g6 ?_
        refine k_if_lt (tgt := 45) (pc' := 36) h dX6_copy_33 rfl rfl (fun c7 => ?_) (fun c7 => ?_)
        · replace hf := if_t c7 hf
          refine k_aload_n (pc' := 46) h dX6_copy_45 rfl rfl 0 rfl ?_
          refine k_iconst (pc' := 47) h dX6_copy_46 rfl ci_1 ?_
          obtain ⟨q8, hq8, hf⟩ := bd_s hf
          refine k_callV (As := [.int (1 : Int32)]) (rest := []) (rv := some (.int q8.1)) (st' := q8.2) (stk' := [.int q8.1]) (pc' := 50) h dX6_copy_47 rfl ml_X6_97 wc_X6_meets wi_X6_meets ⟨Nat.le_of_ble_eq_true rfl, Nat.le_of_ble_eq_true rfl⟩ bM_mo rfl rfl rfl rfl (Nat.le_of_ble_eq_true rfl) (fun l => c_X6_meets l (1 : Int32) q3.2  _ _ hq8) rfl ?_
          exact k_iret h r dX6_copy_50 (lf_i hf)
        · replace hf := if_f c7 hf
          refine k_aload_n (pc' := 37) h dX6_copy_36 rfl rfl 0 rfl ?_
          refine k_get (v := .ref (al (oM G) 2)) (pc' := 40) h dX6_copy_37 rfl bM_mo fl_X6_17 rfl ?_
          refine k_iload_n (pc' := 41) h dX6_copy_40 rfl rfl 3 rfl ?_
          have g9 := gd_1 hf
          replace hf := gd_2 hf
          refine k_iald (pc' := 42) h dX6_copy_41 rfl aM_2 g9 ?_
          refine k_if_ge (tgt := 51) (pc' := 45) h dX6_copy_42 rfl rfl (fun c10 => ?_) (fun c10 => ?_)
          · replace hf := if_t c10 hf
            refine k_iload_n (pc' := 52) h dX6_copy_51 rfl rfl 2 rfl ?_
            refine k_if_lt (tgt := 95) (pc' := 55) h dX6_copy_52 rfl rfl (fun c11 => ?_) (fun c11 => ?_)
            · replace hf := if_t c11 hf
              refine k_aload_n (pc' := 96) h dX6_copy_95 rfl rfl 0 rfl ?_
              refine k_iconst (pc' := 97) h dX6_copy_96 rfl ci_2 ?_
              obtain ⟨q12, hq12, hf⟩ := bd_s hf
              refine k_callV (As := [.int (2 : Int32)]) (rest := []) (rv := some (.int q12.1)) (st' := q12.2) (stk' := [.int q12.1]) (pc' := 100) h dX6_copy_97 rfl ml_X6_97 wc_X6_meets wi_X6_meets ⟨Nat.le_of_ble_eq_true rfl, Nat.le_of_ble_eq_true rfl⟩ bM_mo rfl rfl rfl rfl (Nat.le_of_ble_eq_true rfl) (fun l => c_X6_meets l (2 : Int32) q3.2  _ _ hq12) rfl ?_
              exact k_iret h r dX6_copy_100 (lf_i hf)
            · replace hf := if_f c11 hf
              refine k_iload (pc' := 57) h dX6_copy_55 rfl 4 rfl ?_
              refine k_if_lt (tgt := 95) (pc' := 60) h dX6_copy_57 rfl rfl (fun c13 => ?_) (fun c13 => ?_)
              · replace hf := if_t c13 hf
                refine k_aload_n (pc' := 96) h dX6_copy_95 rfl rfl 0 rfl ?_
                refine k_iconst (pc' := 97) h dX6_copy_96 rfl ci_2 ?_
                obtain ⟨q14, hq14, hf⟩ := bd_s hf
                refine k_callV (As := [.int (2 : Int32)]) (rest := []) (rv := some (.int q14.1)) (st' := q14.2) (stk' := [.int q14.1]) (pc' := 100) h dX6_copy_97 rfl ml_X6_97 wc_X6_meets wi_X6_meets ⟨Nat.le_of_ble_eq_true rfl, Nat.le_of_ble_eq_true rfl⟩ bM_mo rfl rfl rfl rfl (Nat.le_of_ble_eq_true rfl) (fun l => c_X6_meets l (2 : Int32) q3.2  _ _ hq14) rfl ?_
                exact k_iret h r dX6_copy_100 (lf_i hf)
              · replace hf := if_f c13 hf
                refine k_iload_n (pc' := 61) h dX6_copy_60 rfl rfl 2 rfl ?_
                refine k_i2l (pc' := 62) h dX6_copy_61 rfl ?_
                refine k_iload (pc' := 64) h dX6_copy_62 rfl 5 rfl ?_
                refine k_i2l (pc' := 65) h dX6_copy_64 rfl ?_
                refine k_ladd (pc' := 66) h dX6_copy_65 rfl ?_
                refine k_aload_n (pc' := 67) h dX6_copy_66 rfl rfl 0 rfl ?_
                refine k_get (v := .ref (al (oM G) 2)) (pc' := 70) h dX6_copy_67 rfl bM_mo fl_X6_17 rfl ?_
                refine k_iload_n (pc' := 71) h dX6_copy_70 rfl rfl 1 rfl ?_
                have g15 := gd_1 hf
                replace hf := gd_2 hf
                refine k_iald (pc' := 72) h dX6_copy_71 rfl aM_2 g15 ?_
                refine k_i2l (pc' := 73) h dX6_copy_72 rfl ?_
                refine k_lcmp (pc' := 74) h dX6_copy_73 rfl ?_
                refine k_if_gt (tgt := 95) (pc' := 77) h dX6_copy_74 rfl rfl (fun c16 => ?_) (fun c16 => ?_)
                · replace hf := if_t c16 hf
                  refine k_aload_n (pc' := 96) h dX6_copy_95 rfl rfl 0 rfl ?_
                  refine k_iconst (pc' := 97) h dX6_copy_96 rfl ci_2 ?_
                  obtain ⟨q17, hq17, hf⟩ := bd_s hf
                  refine k_callV (As := [.int (2 : Int32)]) (rest := []) (rv := some (.int q17.1)) (st' := q17.2) (stk' := [.int q17.1]) (pc' := 100) h dX6_copy_97 rfl ml_X6_97 wc_X6_meets wi_X6_meets ⟨Nat.le_of_ble_eq_true rfl, Nat.le_of_ble_eq_true rfl⟩ bM_mo rfl rfl rfl rfl (Nat.le_of_ble_eq_true rfl) (fun l => c_X6_meets l (2 : Int32) q3.2  _ _ hq17) rfl ?_
                  exact k_iret h r dX6_copy_100 (lf_i hf)
                · replace hf := if_f c16 hf
                  refine k_iload (pc' := 79) h dX6_copy_77 rfl 4 rfl ?_
                  refine k_i2l (pc' := 80) h dX6_copy_79 rfl ?_
                  refine k_iload (pc' := 82) h dX6_copy_80 rfl 5 rfl ?_
                  refine k_i2l (pc' := 83) h dX6_copy_82 rfl ?_
                  refine k_ladd (pc' := 84) h dX6_copy_83 rfl ?_
                  refine k_aload_n (pc' := 85) h dX6_copy_84 rfl rfl 0 rfl ?_
                  refine k_get (v := .ref (al (oM G) 2)) (pc' := 88) h dX6_copy_85 rfl bM_mo fl_X6_17 rfl ?_
                  refine k_iload_n (pc' := 89) h dX6_copy_88 rfl rfl 3 rfl ?_
                  have g18 := gd_1 hf
                  replace hf := gd_2 hf
                  refine k_iald (pc' := 90) h dX6_copy_89 rfl aM_2 g18 ?_
                  refine k_i2l (pc' := 91) h dX6_copy_90 rfl ?_
                  refine k_lcmp (pc' := 92) h dX6_copy_91 rfl ?_
                  refine k_if_le (tgt := 101) (pc' := 95) h dX6_copy_92 rfl rfl (fun c19 => ?_) (fun c19 => ?_)
                  · replace hf := if_t c19 hf
                    refine k_iconst (pc' := 102) h dX6_copy_101 rfl ci_0 ?_
                    refine k_istore (lv' := [(0, .ref (al (oM G) 0)), (1, .int x0), (2, .int x1), (3, .int x2), (4, .int x3), (5, .int x4), (6, .int (0 : Int32))]) (pc' := 104) h dX6_copy_102 rfl (Nat.le_of_ble_eq_true rfl) [1, 2, 3, 4, 5, 6, 0] rfl ?_
                    obtain ⟨q24, hq24, hf⟩ := bd_s hf
                    refine w_X6_copy_104 h x0 x1 x2 x3 x4  fuel (0 : Int32) q3.2 q24 hq24 ?_
                    refine k_iconst (pc' := 134) h dX6_copy_133 rfl ci_0 ?_
                    refine k_istore (lv' := [(0, .ref (al (oM G) 0)), (1, .int x0), (2, .int x1), (3, .int x2), (4, .int x3), (5, .int x4), (6, .int (0 : Int32))]) (pc' := 136) h dX6_copy_134 rfl (Nat.le_of_ble_eq_true rfl) [1, 2, 3, 4, 5, 6, 0] rfl ?_
                    obtain ⟨q29, hq29, hf⟩ := bd_s hf
                    refine w_X6_copy_136 h x0 x1 x2 x3 x4  fuel (0 : Int32) q24.2 q29 hq29 ?_
                    refine k_iconst (pc' := 172) h dX6_copy_171 rfl ci_1 ?_
                    exact k_iret h r dX6_copy_172 (lf_i hf)
                  · replace hf := if_f c19 hf
                    refine k_aload_n (pc' := 96) h dX6_copy_95 rfl rfl 0 rfl ?_
                    refine k_iconst (pc' := 97) h dX6_copy_96 rfl ci_2 ?_
                    obtain ⟨q30, hq30, hf⟩ := bd_s hf
                    refine k_callV (As := [.int (2 : Int32)]) (rest := []) (rv := some (.int q30.1)) (st' := q30.2) (stk' := [.int q30.1]) (pc' := 100) h dX6_copy_97 rfl ml_X6_97 wc_X6_meets wi_X6_meets ⟨Nat.le_of_ble_eq_true rfl, Nat.le_of_ble_eq_true rfl⟩ bM_mo rfl rfl rfl rfl (Nat.le_of_ble_eq_true rfl) (fun l => c_X6_meets l (2 : Int32) q3.2  _ _ hq30) rfl ?_
                    exact k_iret h r dX6_copy_100 (lf_i hf)
          · replace hf := if_f c10 hf
            refine k_aload_n (pc' := 46) h dX6_copy_45 rfl rfl 0 rfl ?_
            refine k_iconst (pc' := 47) h dX6_copy_46 rfl ci_1 ?_
            obtain ⟨q31, hq31, hf⟩ := bd_s hf
            refine k_callV (As := [.int (1 : Int32)]) (rest := []) (rv := some (.int q31.1)) (st' := q31.2) (stk' := [.int q31.1]) (pc' := 50) h dX6_copy_47 rfl ml_X6_97 wc_X6_meets wi_X6_meets ⟨Nat.le_of_ble_eq_true rfl, Nat.le_of_ble_eq_true rfl⟩ bM_mo rfl rfl rfl rfl (Nat.le_of_ble_eq_true rfl) (fun l => c_X6_meets l (1 : Int32) q3.2  _ _ hq31) rfl ?_
            exact k_iret h r dX6_copy_50 (lf_i hf)
      · replace hf := if_f c5 hf
        refine k_aload_n (pc' := 22) h dX6_copy_21 rfl rfl 0 rfl ?_
        refine k_iconst (pc' := 23) h dX6_copy_22 rfl ci_5 ?_
        obtain ⟨q32, hq32, hf⟩ := bd_s hf
        refine k_callV (As := [.int (5 : Int32)]) (rest := []) (rv := some (.int q32.1)) (st' := q32.2) (stk' := [.int q32.1]) (pc' := 26) h dX6_copy_23 rfl ml_X6_97 wc_X6_meets wi_X6_meets ⟨Nat.le_of_ble_eq_true rfl, Nat.le_of_ble_eq_true rfl⟩ bM_mo rfl rfl rfl rfl (Nat.le_of_ble_eq_true rfl) (fun l => c_X6_meets l (5 : Int32) q3.2  _ _ hq32) rfl ?_
        exact k_iret h r dX6_copy_26 (lf_i hf)
    · replace hf := if_t c4 hf
      refine k_iconst (pc' := 15) h dX6_copy_14 rfl ci_m1 ?_
      exact k_iret h r dX6_copy_15 (lf_i hf)
noncomputable def l_X6_mean_44 (p1 : Int32) (v2 : Int64) (v4 : Int32) (st : St) : Option ((Int64 × Int32 × St) ⊕ (Int64 × Int32 × St)) :=
  (gd (inb p1 6) (if (st.1 2 p1.toNatClampNeg) ≤ v4 then (some (.inr (v2, v4, st))) else ((f_X6_rowAt p1 v4 st).bind (fun q9 => (lw (v2 + q9.1.toInt64) (fun y10 => (some (.inl (y10, v4 + (1 : Int32), q9.2)))))))))
set_option maxHeartbeats 4000000 in
theorem w_X6_mean_44 {G : GG} {X : Cx} (h : Ok X (oM G) cX6_mean RX6 5 (RM 2))  (p1 : Int32)  (n : Nat) (v2 : Int64) (v4 : Int32) (st : St) (q : Int64 × Int32 × St) (hq : iter (fun v : Int64 × Int32 × St => l_X6_mean_44 p1 v.1 v.2.1 v.2.2) n (v2, v4, st) = some q) (kx : Wk X (oM G) 5 q.2.2 72 [(0, .ref (al (oM G) 0)), (1, .int p1), (2, .long q.1), (4, .int q.2.1)] []) : Wk X (oM G) 5 st 44 [(0, .ref (al (oM G) 0)), (1, .int p1), (2, .long v2), (4, .int v4)] [] := by
  refine iter_rule (hd := (fun v : Int64 × Int32 × St => Wk X (oM G) 5 v.2.2 44 [(0, .ref (al (oM G) 0)), (1, .int p1), (2, .long v.1), (4, .int v.2.1)] [])) (ex := (fun v : Int64 × Int32 × St => Wk X (oM G) 5 v.2.2 72 [(0, .ref (al (oM G) 0)), (1, .int p1), (2, .long v.1), (4, .int v.2.1)] [])) ?_ n (v2, v4, st) q hq kx
  rintro ⟨v2, v4, st⟩ oo hbv K
  show Wk X (oM G) 5 st 44 [(0, .ref (al (oM G) 0)), (1, .int p1), (2, .long v2), (4, .int v4)] []
  have hf : l_X6_mean_44 p1 v2 v4 st = some oo := hbv
  unfold l_X6_mean_44 at hf
  refine k_iload (pc' := 46) h dX6_mean_44 rfl 3 rfl ?_
  refine k_aload_n (pc' := 47) h dX6_mean_46 rfl rfl 0 rfl ?_
  refine k_get (v := .ref (al (oM G) 2)) (pc' := 50) h dX6_mean_47 rfl bM_mo fl_X6_17 rfl ?_
  refine k_iload_n (pc' := 51) h dX6_mean_50 rfl rfl 1 rfl ?_
  have g7 := gd_1 hf
  replace hf := gd_2 hf
  refine k_iald (pc' := 52) h dX6_mean_51 rfl aM_2 g7 ?_
  refine k_icmp_ge (tgt := 72) (pc' := 55) h dX6_mean_52 rfl rfl (fun c8 => ?_) (fun c8 => ?_)
  · replace hf := if_t c8 hf
    refine k_sub (lv' := [(0, .ref (al (oM G) 0)), (1, .int p1), (2, .long v2), (4, .int v4)]) [0, 1, 2, 3] rfl ?_
    exact lp_o hf K
  · replace hf := if_f c8 hf
    refine k_lload_n (pc' := 56) h dX6_mean_55 rfl rfl 2 rfl ?_
    refine k_aload_n (pc' := 57) h dX6_mean_56 rfl rfl 0 rfl ?_
    refine k_iload_n (pc' := 58) h dX6_mean_57 rfl rfl 1 rfl ?_
    refine k_iload (pc' := 60) h dX6_mean_58 rfl 3 rfl ?_
    obtain ⟨q9, hq9, hf⟩ := bd_s hf
    refine k_callV (As := [.int p1, .int v4]) (rest := [.long v2]) (rv := some (.int q9.1)) (st' := q9.2) (stk' := [.int q9.1, .long v2]) (pc' := 63) h dX6_mean_60 rfl ml_X6_101 wc_X6_rowAt wi_X6_rowAt ⟨Nat.le_of_ble_eq_true rfl, Nat.le_of_ble_eq_true rfl⟩ bM_mo rfl rfl rfl rfl (Nat.le_of_ble_eq_true rfl) (fun l => c_X6_rowAt l p1 v4 st  _ _ hq9) rfl ?_
    refine k_i2l (pc' := 64) h dX6_mean_63 rfl ?_
    refine k_ladd (pc' := 65) h dX6_mean_64 rfl ?_
    obtain ⟨y10, hy10, hf⟩ := lw_s hf
    refine k_eql hy10 ?_
    refine k_lstore_n (lv' := [(0, .ref (al (oM G) 0)), (1, .int p1), (2, .long y10), (4, .int v4)]) (pc' := 66) h dX6_mean_65 rfl rfl (Nat.le_of_ble_eq_true rfl) [1, 2, 0, 3] rfl ?_
    refine k_iinc (lv' := [(0, .ref (al (oM G) 0)), (1, .int p1), (2, .long y10), (4, .int (v4 + (1 : Int32)))]) (pc' := 69) h dX6_mean_66 rfl 3 rfl (congrArg (fun z => v4 + z) ci_1) (Nat.le_of_ble_eq_true rfl) [1, 2, 3, 0] rfl ?_
    refine k_goto (tgt := 44) h dX6_mean_69 rfl ?_
    refine k_sub (lv' := [(0, .ref (al (oM G) 0)), (1, .int p1), (2, .long y10), (4, .int (v4 + (1 : Int32)))]) [0, 1, 2, 3] rfl ?_
    exact lp_o hf K
noncomputable def f_X6_mean (x0 : Int32) (st : St) : Option (Int32 × St) :=
  ((f_X6_isRow x0 st).bind (fun q1 => (if q1.1 = 0 then (some ((-1 : Int32), q1.2)) else (gd (inb x0 6) (if 0 ≤ (q1.2.1 2 x0.toNatClampNeg) then (gd (inb x0 6) (if (q1.2.1 2 x0.toNatClampNeg) = 0 then ((f_X6_meets (4 : Int32) q1.2).bind (fun q15 => (some (q15.1, q15.2)))) else ((iter (fun v : Int64 × Int32 × St => l_X6_mean_44 x0 v.1 v.2.1 v.2.2) fuel ((0 : Int64), (0 : Int32), q1.2)).bind (fun q11 => (gd (inb x0 6) (gd (nzl ((q11.2.2.1 2 x0.toNatClampNeg).toInt64)) ((f_X6_tells ((q11.1 / ((q11.2.2.1 2 x0.toNatClampNeg).toInt64)).toInt32) (1 : Int32) q11.2.2).bind (fun q14 => (some (q14.1, q14.2)))))))))) else ((f_X6_meets (1 : Int32) q1.2).bind (fun q16 => (some (q16.1, q16.2)))))))))
set_option maxHeartbeats 4000000 in
theorem c_X6_mean {G : GG} (l : Launch) (x0 : Int32) (st : St)  (rr : Int32) (st' : St) (hf : f_X6_mean x0 st = some (rr, st')) : MM l yX6_mean cX6_mean 5 (some .int) 2 (oM G) [.ref (al (oM G) 0), .int x0] st (some (.int rr)) st' := by
  refine mk_MM (by decide +kernel) (Nat.le_of_ble_eq_true rfl) (fun X h r => ?_)
  refine k_sub (lv' := [(0, .ref (al (oM G) 0)), (1, .int x0)]) [0, 1] rfl ?_
  unfold f_X6_mean at hf
  refine k_iload_n (pc' := 1) h dX6_mean_0 rfl rfl 1 rfl ?_
  obtain ⟨q1, hq1, hf⟩ := bd_s hf
  refine k_callS (As := [.int x0]) (rest := []) (rv := some (.int q1.1)) (st' := q1.2) (stk' := [.int q1.1]) (pc' := 4) h dX6_mean_1 rfl ml_X6_93 wc_X6_isRow ws_X6_isRow ⟨Nat.le_of_ble_eq_true rfl, Nat.le_of_ble_eq_true rfl⟩ rfl rfl (Nat.le_of_ble_eq_true rfl) (fun l => c_X6_isRow l x0 st  _ _ hq1) rfl ?_
  refine k_if_ne (tgt := 9) (pc' := 7) h dX6_mean_4 rfl rfl (fun c2 => ?_) (fun c2 => ?_)
  · replace hf := if_f c2 hf
    refine k_aload_n (pc' := 10) h dX6_mean_9 rfl rfl 0 rfl ?_
    refine k_get (v := .ref (al (oM G) 2)) (pc' := 13) h dX6_mean_10 rfl bM_mo fl_X6_17 rfl ?_
    refine k_iload_n (pc' := 14) h dX6_mean_13 rfl rfl 1 rfl ?_
    have g3 := gd_1 hf
    replace hf := gd_2 hf
    refine k_iald (pc' := 15) h dX6_mean_14 rfl aM_2 g3 ?_
    refine k_if_ge (tgt := 24) (pc' := 18) h dX6_mean_15 rfl rfl (fun c4 => ?_) (fun c4 => ?_)
    · replace hf := if_t c4 hf
      refine k_aload_n (pc' := 25) h dX6_mean_24 rfl rfl 0 rfl ?_
      refine k_get (v := .ref (al (oM G) 2)) (pc' := 28) h dX6_mean_25 rfl bM_mo fl_X6_17 rfl ?_
      refine k_iload_n (pc' := 29) h dX6_mean_28 rfl rfl 1 rfl ?_
      have g5 := gd_1 hf
      replace hf := gd_2 hf
      refine k_iald (pc' := 30) h dX6_mean_29 rfl aM_2 g5 ?_
      refine k_if_ne (tgt := 39) (pc' := 33) h dX6_mean_30 rfl rfl (fun c6 => ?_) (fun c6 => ?_)
      · replace hf := if_f c6 hf
        refine k_lconst (pc' := 40) h dX6_mean_39 rfl cl_0 ?_
        refine k_lstore_n (lv' := [(0, .ref (al (oM G) 0)), (1, .int x0), (2, .long (0 : Int64))]) (pc' := 41) h dX6_mean_40 rfl rfl (Nat.le_of_ble_eq_true rfl) [1, 2, 0] rfl ?_
        refine k_iconst (pc' := 42) h dX6_mean_41 rfl ci_0 ?_
        refine k_istore (lv' := [(0, .ref (al (oM G) 0)), (1, .int x0), (2, .long (0 : Int64)), (4, .int (0 : Int32))]) (pc' := 44) h dX6_mean_42 rfl (Nat.le_of_ble_eq_true rfl) [1, 2, 3, 0] rfl ?_
        obtain ⟨q11, hq11, hf⟩ := bd_s hf
        refine w_X6_mean_44 h x0  fuel (0 : Int64) (0 : Int32) q1.2 q11 hq11 ?_
        refine k_aload_n (pc' := 73) h dX6_mean_72 rfl rfl 0 rfl ?_
        refine k_lload_n (pc' := 74) h dX6_mean_73 rfl rfl 2 rfl ?_
        refine k_aload_n (pc' := 75) h dX6_mean_74 rfl rfl 0 rfl ?_
        refine k_get (v := .ref (al (oM G) 2)) (pc' := 78) h dX6_mean_75 rfl bM_mo fl_X6_17 rfl ?_
        refine k_iload_n (pc' := 79) h dX6_mean_78 rfl rfl 1 rfl ?_
        have g12 := gd_1 hf
        replace hf := gd_2 hf
        refine k_iald (pc' := 80) h dX6_mean_79 rfl aM_2 g12 ?_
        refine k_i2l (pc' := 81) h dX6_mean_80 rfl ?_
        have g13 := gd_1 hf
        replace hf := gd_2 hf
        refine k_ldiv (pc' := 82) h dX6_mean_81 rfl (nzl_n g13) ?_
        refine k_l2i (pc' := 83) h dX6_mean_82 rfl ?_
        refine k_iconst (pc' := 84) h dX6_mean_83 rfl ci_1 ?_
        obtain ⟨q14, hq14, hf⟩ := bd_s hf
        refine k_callV (As := [.int ((q11.1 / ((q11.2.2.1 2 x0.toNatClampNeg).toInt64)).toInt32), .int (1 : Int32)]) (rest := []) (rv := some (.int q14.1)) (st' := q14.2) (stk' := [.int q14.1]) (pc' := 87) h dX6_mean_84 rfl ml_X6_105 wc_X6_tells wi_X6_tells ⟨Nat.le_of_ble_eq_true rfl, Nat.le_of_ble_eq_true rfl⟩ bM_mo rfl rfl rfl rfl (Nat.le_of_ble_eq_true rfl) (fun l => c_X6_tells l ((q11.1 / ((q11.2.2.1 2 x0.toNatClampNeg).toInt64)).toInt32) (1 : Int32) q11.2.2  _ _ hq14) rfl ?_
        exact k_iret h r dX6_mean_87 (lf_i hf)
      · replace hf := if_t c6 hf
        refine k_aload_n (pc' := 34) h dX6_mean_33 rfl rfl 0 rfl ?_
        refine k_iconst (pc' := 35) h dX6_mean_34 rfl ci_4 ?_
        obtain ⟨q15, hq15, hf⟩ := bd_s hf
        refine k_callV (As := [.int (4 : Int32)]) (rest := []) (rv := some (.int q15.1)) (st' := q15.2) (stk' := [.int q15.1]) (pc' := 38) h dX6_mean_35 rfl ml_X6_97 wc_X6_meets wi_X6_meets ⟨Nat.le_of_ble_eq_true rfl, Nat.le_of_ble_eq_true rfl⟩ bM_mo rfl rfl rfl rfl (Nat.le_of_ble_eq_true rfl) (fun l => c_X6_meets l (4 : Int32) q1.2  _ _ hq15) rfl ?_
        exact k_iret h r dX6_mean_38 (lf_i hf)
    · replace hf := if_f c4 hf
      refine k_aload_n (pc' := 19) h dX6_mean_18 rfl rfl 0 rfl ?_
      refine k_iconst (pc' := 20) h dX6_mean_19 rfl ci_1 ?_
      obtain ⟨q16, hq16, hf⟩ := bd_s hf
      refine k_callV (As := [.int (1 : Int32)]) (rest := []) (rv := some (.int q16.1)) (st' := q16.2) (stk' := [.int q16.1]) (pc' := 23) h dX6_mean_20 rfl ml_X6_97 wc_X6_meets wi_X6_meets ⟨Nat.le_of_ble_eq_true rfl, Nat.le_of_ble_eq_true rfl⟩ bM_mo rfl rfl rfl rfl (Nat.le_of_ble_eq_true rfl) (fun l => c_X6_meets l (1 : Int32) q1.2  _ _ hq16) rfl ?_
      exact k_iret h r dX6_mean_23 (lf_i hf)
  · replace hf := if_t c2 hf
    refine k_iconst (pc' := 8) h dX6_mean_7 rfl ci_m1 ?_
    exact k_iret h r dX6_mean_8 (lf_i hf)
noncomputable def f_X6_isText (x0 : Int32) (st : St) : Option (Int32 × St) :=
  ((f_X6_in x0 (0 : Int32) (3 : Int32) st).bind (fun q1 => (gd (isB q1.1) (some (q1.1, q1.2)))))
set_option maxHeartbeats 4000000 in
theorem c_X6_isText {G : GG} (l : Launch) (x0 : Int32) (st : St)  (rr : Int32) (st' : St) (hf : f_X6_isText x0 st = some (rr, st')) : MM l yX6_isText cX6_isText 1 (some .boolean) 1 (oM G) [.int x0] st (some (.int rr)) st' := by
  refine mk_MM (by decide +kernel) (Nat.le_of_ble_eq_true rfl) (fun X h r => ?_)
  refine k_sub (lv' := [(0, .int x0)]) [0] rfl ?_
  unfold f_X6_isText at hf
  refine k_iload_n (pc' := 1) h dX6_isText_0 rfl rfl 0 rfl ?_
  refine k_iconst (pc' := 2) h dX6_isText_1 rfl ci_0 ?_
  refine k_iconst (pc' := 3) h dX6_isText_2 rfl ci_3 ?_
  obtain ⟨q1, hq1, hf⟩ := bd_s hf
  refine k_callS (As := [.int x0, .int (0 : Int32), .int (3 : Int32)]) (rest := []) (rv := some (.int q1.1)) (st' := q1.2) (stk' := [.int q1.1]) (pc' := 6) h dX6_isText_3 rfl ml_X6_83 wc_X6_in ws_X6_in ⟨Nat.le_of_ble_eq_true rfl, Nat.le_of_ble_eq_true rfl⟩ rfl rfl (Nat.le_of_ble_eq_true rfl) (fun l => c_X6_in l x0 (0 : Int32) (3 : Int32) st  _ _ hq1) rfl ?_
  have g2 := isB_or (gd_1 hf)
  replace hf := gd_2 hf
  exact k_zret h r dX6_isText_6 g2 (lf_i hf)
noncomputable def l_X6_text_34 (p1 : Int32) (p2 : Int32) (v3 : Int32) (st : St) : Option ((Int32 × St) ⊕ (Int32 × St)) :=
  (if (60 : Int32) ≤ v3 then (some (.inr (v3, st))) else (gd (inb (((60 : Int32) * p1) + v3) 240) (ls (sA st 6 (upd (st.1 6) (((60 : Int32) * p1) + v3).toNatClampNeg ((32 : Int32).toInt8.toInt32))) (fun s9 => (some (.inl (v3 + (1 : Int32), s9)))))))
set_option maxHeartbeats 4000000 in
theorem w_X6_text_34 {G : GG} {X : Cx} (h : Ok X (oM G) cX6_text RX6 4 (RM 2))  (p1 : Int32) (p2 : Int32)  (n : Nat) (v3 : Int32) (st : St) (q : Int32 × St) (hq : iter (fun v : Int32 × St => l_X6_text_34 p1 p2 v.1 v.2) n (v3, st) = some q) (kx : Wk X (oM G) 4 q.2 59 [(0, .ref (al (oM G) 0)), (1, .int p1), (2, .int p2), (3, .int q.1)] []) : Wk X (oM G) 4 st 34 [(0, .ref (al (oM G) 0)), (1, .int p1), (2, .int p2), (3, .int v3)] [] := by
  refine iter_rule (hd := (fun v : Int32 × St => Wk X (oM G) 4 v.2 34 [(0, .ref (al (oM G) 0)), (1, .int p1), (2, .int p2), (3, .int v.1)] [])) (ex := (fun v : Int32 × St => Wk X (oM G) 4 v.2 59 [(0, .ref (al (oM G) 0)), (1, .int p1), (2, .int p2), (3, .int v.1)] [])) ?_ n (v3, st) q hq kx
  rintro ⟨v3, st⟩ oo hbv K
  show Wk X (oM G) 4 st 34 [(0, .ref (al (oM G) 0)), (1, .int p1), (2, .int p2), (3, .int v3)] []
  have hf : l_X6_text_34 p1 p2 v3 st = some oo := hbv
  unfold l_X6_text_34 at hf
  refine k_iload_n (pc' := 35) h dX6_text_34 rfl rfl 3 rfl ?_
  refine k_bipush (pc' := 37) h dX6_text_35 rfl cb_60 ?_
  refine k_icmp_ge (tgt := 59) (pc' := 40) h dX6_text_37 rfl rfl (fun c7 => ?_) (fun c7 => ?_)
  · replace hf := if_t c7 hf
    refine k_sub (lv' := [(0, .ref (al (oM G) 0)), (1, .int p1), (2, .int p2), (3, .int v3)]) [0, 1, 2, 3] rfl ?_
    exact lp_o hf K
  · replace hf := if_f c7 hf
    refine k_aload_n (pc' := 41) h dX6_text_40 rfl rfl 0 rfl ?_
    refine k_get (v := .ref (al (oM G) 6)) (pc' := 44) h dX6_text_41 rfl bM_mo fl_X6_29 rfl ?_
    refine k_bipush (pc' := 46) h dX6_text_44 rfl cb_60 ?_
    refine k_iload_n (pc' := 47) h dX6_text_46 rfl rfl 1 rfl ?_
    refine k_imul (pc' := 48) h dX6_text_47 rfl ?_
    refine k_iload_n (pc' := 49) h dX6_text_48 rfl rfl 3 rfl ?_
    refine k_iadd (pc' := 50) h dX6_text_49 rfl ?_
    refine k_bipush (pc' := 52) h dX6_text_50 rfl cb_32 ?_
    have g8 := gd_1 hf
    replace hf := gd_2 hf
    refine k_bast (pc' := 53) h dX6_text_52 rfl aM_6 g8 ?_
    obtain ⟨s9, hs9, hf⟩ := ls_s hf
    refine k_st hs9 ?_
    refine k_iinc (lv' := [(0, .ref (al (oM G) 0)), (1, .int p1), (2, .int p2), (3, .int (v3 + (1 : Int32)))]) (pc' := 56) h dX6_text_53 rfl 3 rfl (congrArg (fun z => v3 + z) ci_1) (Nat.le_of_ble_eq_true rfl) [1, 2, 3, 0] rfl ?_
    refine k_goto (tgt := 34) h dX6_text_56 rfl ?_
    refine k_sub (lv' := [(0, .ref (al (oM G) 0)), (1, .int p1), (2, .int p2), (3, .int (v3 + (1 : Int32)))]) [0, 1, 2, 3] rfl ?_
    exact lp_o hf K
noncomputable def f_X6_text (x0 : Int32) (x1 : Int32) (st : St) : Option (Int32 × St) :=
  ((f_X6_isText x0 st).bind (fun q1 => (if q1.1 = 0 then (some ((-1 : Int32), q1.2)) else (if x1 ≤ (60 : Int32) then (if 0 ≤ x1 then (gd (inb x0 4) (ls (sA q1.2 5 (upd (q1.2.1 5) x0.toNatClampNeg x1)) (fun s6 => ((iter (fun v : Int32 × St => l_X6_text_34 x0 x1 v.1 v.2) fuel ((0 : Int32), s6)).bind (fun q10 => (some (x1, q10.2))))))) else ((f_X6_meets (5 : Int32) q1.2).bind (fun q11 => (some (q11.1, q11.2))))) else (some ((-1 : Int32), q1.2))))))
set_option maxHeartbeats 4000000 in
theorem c_X6_text {G : GG} (l : Launch) (x0 : Int32) (x1 : Int32) (st : St)  (rr : Int32) (st' : St) (hf : f_X6_text x0 x1 st = some (rr, st')) : MM l yX6_text cX6_text 4 (some .int) 2 (oM G) [.ref (al (oM G) 0), .int x0, .int x1] st (some (.int rr)) st' := by
  refine mk_MM (by decide +kernel) (Nat.le_of_ble_eq_true rfl) (fun X h r => ?_)
  refine k_sub (lv' := [(0, .ref (al (oM G) 0)), (1, .int x0), (2, .int x1)]) [0, 1, 2] rfl ?_
  unfold f_X6_text at hf
  refine k_iload_n (pc' := 1) h dX6_text_0 rfl rfl 1 rfl ?_
  obtain ⟨q1, hq1, hf⟩ := bd_s hf
  refine k_callS (As := [.int x0]) (rest := []) (rv := some (.int q1.1)) (st' := q1.2) (stk' := [.int q1.1]) (pc' := 4) h dX6_text_1 rfl ml_X6_108 wc_X6_isText ws_X6_isText ⟨Nat.le_of_ble_eq_true rfl, Nat.le_of_ble_eq_true rfl⟩ rfl rfl (Nat.le_of_ble_eq_true rfl) (fun l => c_X6_isText l x0 st  _ _ hq1) rfl ?_
  refine k_if_eq (tgt := 13) (pc' := 7) h dX6_text_4 rfl rfl (fun c2 => ?_) (fun c2 => ?_)
  · replace hf := if_t c2 hf
    refine k_iconst (pc' := 14) h dX6_text_13 rfl ci_m1 ?_
    exact k_iret h r dX6_text_14 (lf_i hf)
  · replace hf := if_f c2 hf
    refine k_iload_n (pc' := 8) h dX6_text_7 rfl rfl 2 rfl ?_
    refine k_bipush (pc' := 10) h dX6_text_8 rfl cb_60 ?_
    refine k_icmp_le (tgt := 15) (pc' := 13) h dX6_text_10 rfl rfl (fun c3 => ?_) (fun c3 => ?_)
    · replace hf := if_t c3 hf
      refine k_iload_n (pc' := 16) h dX6_text_15 rfl rfl 2 rfl ?_
      refine k_if_ge (tgt := 25) (pc' := 19) h dX6_text_16 rfl rfl (fun c4 => ?_) (fun c4 => ?_)
      · replace hf := if_t c4 hf
        refine k_aload_n (pc' := 26) h dX6_text_25 rfl rfl 0 rfl ?_
        refine k_get (v := .ref (al (oM G) 5)) (pc' := 29) h dX6_text_26 rfl bM_mo fl_X6_26 rfl ?_
        refine k_iload_n (pc' := 30) h dX6_text_29 rfl rfl 1 rfl ?_
        refine k_iload_n (pc' := 31) h dX6_text_30 rfl rfl 2 rfl ?_
        have g5 := gd_1 hf
        replace hf := gd_2 hf
        refine k_iast (pc' := 32) h dX6_text_31 rfl aM_5 g5 ?_
        obtain ⟨s6, hs6, hf⟩ := ls_s hf
        refine k_st hs6 ?_
        refine k_iconst (pc' := 33) h dX6_text_32 rfl ci_0 ?_
        refine k_istore_n (lv' := [(0, .ref (al (oM G) 0)), (1, .int x0), (2, .int x1), (3, .int (0 : Int32))]) (pc' := 34) h dX6_text_33 rfl rfl (Nat.le_of_ble_eq_true rfl) [1, 2, 3, 0] rfl ?_
        obtain ⟨q10, hq10, hf⟩ := bd_s hf
        refine w_X6_text_34 h x0 x1  fuel (0 : Int32) s6 q10 hq10 ?_
        refine k_iload_n (pc' := 60) h dX6_text_59 rfl rfl 2 rfl ?_
        exact k_iret h r dX6_text_60 (lf_i hf)
      · replace hf := if_f c4 hf
        refine k_aload_n (pc' := 20) h dX6_text_19 rfl rfl 0 rfl ?_
        refine k_iconst (pc' := 21) h dX6_text_20 rfl ci_5 ?_
        obtain ⟨q11, hq11, hf⟩ := bd_s hf
        refine k_callV (As := [.int (5 : Int32)]) (rest := []) (rv := some (.int q11.1)) (st' := q11.2) (stk' := [.int q11.1]) (pc' := 24) h dX6_text_21 rfl ml_X6_97 wc_X6_meets wi_X6_meets ⟨Nat.le_of_ble_eq_true rfl, Nat.le_of_ble_eq_true rfl⟩ bM_mo rfl rfl rfl rfl (Nat.le_of_ble_eq_true rfl) (fun l => c_X6_meets l (5 : Int32) q1.2  _ _ hq11) rfl ?_
        exact k_iret h r dX6_text_24 (lf_i hf)
    · replace hf := if_f c3 hf
      refine k_iconst (pc' := 14) h dX6_text_13 rfl ci_m1 ?_
      exact k_iret h r dX6_text_14 (lf_i hf)
noncomputable def f_X6_put (x0 : Int32) (x1 : Int32) (x2 : Int32) (st : St) : Option (Int32 × St) :=
  ((f_X6_isText x0 st).bind (fun q1 => (if q1.1 = 0 then (some ((-1 : Int32), q1.2)) else (gd (inb x0 4) (if 0 ≤ (q1.2.1 5 x0.toNatClampNeg) then (gd (inb x0 4) ((f_X6_in x1 (0 : Int32) ((q1.2.1 5 x0.toNatClampNeg) - (1 : Int32)) q1.2).bind (fun q6 => (if q6.1 = 0 then ((f_X6_meets (2 : Int32) q6.2).bind (fun q12 => (some (q12.1, q12.2)))) else (gd (inb (((60 : Int32) * x0) + x1) 240) (lw (q6.2.1 6 (((60 : Int32) * x0) + x1).toNatClampNeg) (fun y9 => (gd (inb (((60 : Int32) * x0) + x1) 240) (ls (sA q6.2 6 (upd (q6.2.1 6) (((60 : Int32) * x0) + x1).toNatClampNeg (x2.toInt8.toInt32.toInt8.toInt32))) (fun s11 => (some ((1000 : Int32) + y9, s11)))))))))))) else ((f_X6_meets (1 : Int32) q1.2).bind (fun q13 => (some (q13.1, q13.2)))))))))
set_option maxHeartbeats 4000000 in
theorem c_X6_put {G : GG} (l : Launch) (x0 : Int32) (x1 : Int32) (x2 : Int32) (st : St)  (rr : Int32) (st' : St) (hf : f_X6_put x0 x1 x2 st = some (rr, st')) : MM l yX6_put cX6_put 5 (some .int) 2 (oM G) [.ref (al (oM G) 0), .int x0, .int x1, .int x2] st (some (.int rr)) st' := by
  refine mk_MM (by decide +kernel) (Nat.le_of_ble_eq_true rfl) (fun X h r => ?_)
  refine k_sub (lv' := [(0, .ref (al (oM G) 0)), (1, .int x0), (2, .int x1), (3, .int x2)]) [0, 1, 2, 3] rfl ?_
  unfold f_X6_put at hf
  refine k_iload_n (pc' := 1) h dX6_put_0 rfl rfl 1 rfl ?_
  obtain ⟨q1, hq1, hf⟩ := bd_s hf
  refine k_callS (As := [.int x0]) (rest := []) (rv := some (.int q1.1)) (st' := q1.2) (stk' := [.int q1.1]) (pc' := 4) h dX6_put_1 rfl ml_X6_108 wc_X6_isText ws_X6_isText ⟨Nat.le_of_ble_eq_true rfl, Nat.le_of_ble_eq_true rfl⟩ rfl rfl (Nat.le_of_ble_eq_true rfl) (fun l => c_X6_isText l x0 st  _ _ hq1) rfl ?_
  refine k_if_ne (tgt := 9) (pc' := 7) h dX6_put_4 rfl rfl (fun c2 => ?_) (fun c2 => ?_)
  · replace hf := if_f c2 hf
    refine k_aload_n (pc' := 10) h dX6_put_9 rfl rfl 0 rfl ?_
    refine k_get (v := .ref (al (oM G) 5)) (pc' := 13) h dX6_put_10 rfl bM_mo fl_X6_26 rfl ?_
    refine k_iload_n (pc' := 14) h dX6_put_13 rfl rfl 1 rfl ?_
    have g3 := gd_1 hf
    replace hf := gd_2 hf
    refine k_iald (pc' := 15) h dX6_put_14 rfl aM_5 g3 ?_
    refine k_if_ge (tgt := 24) (pc' := 18) h dX6_put_15 rfl rfl (fun c4 => ?_) (fun c4 => ?_)
    · replace hf := if_t c4 hf
      refine k_iload_n (pc' := 25) h dX6_put_24 rfl rfl 2 rfl ?_
      refine k_iconst (pc' := 26) h dX6_put_25 rfl ci_0 ?_
      refine k_aload_n (pc' := 27) h dX6_put_26 rfl rfl 0 rfl ?_
      refine k_get (v := .ref (al (oM G) 5)) (pc' := 30) h dX6_put_27 rfl bM_mo fl_X6_26 rfl ?_
      refine k_iload_n (pc' := 31) h dX6_put_30 rfl rfl 1 rfl ?_
      have g5 := gd_1 hf
      replace hf := gd_2 hf
      refine k_iald (pc' := 32) h dX6_put_31 rfl aM_5 g5 ?_
      refine k_iconst (pc' := 33) h dX6_put_32 rfl ci_1 ?_
      refine k_isub (pc' := 34) h dX6_put_33 rfl ?_
      obtain ⟨q6, hq6, hf⟩ := bd_s hf
      refine k_callS (As := [.int x1, .int (0 : Int32), .int ((q1.2.1 5 x0.toNatClampNeg) - (1 : Int32))]) (rest := []) (rv := some (.int q6.1)) (st' := q6.2) (stk' := [.int q6.1]) (pc' := 37) h dX6_put_34 rfl ml_X6_83 wc_X6_in ws_X6_in ⟨Nat.le_of_ble_eq_true rfl, Nat.le_of_ble_eq_true rfl⟩ rfl rfl (Nat.le_of_ble_eq_true rfl) (fun l => c_X6_in l x1 (0 : Int32) ((q1.2.1 5 x0.toNatClampNeg) - (1 : Int32)) q1.2  _ _ hq6) rfl ?_
      refine k_if_ne (tgt := 46) (pc' := 40) h dX6_put_37 rfl rfl (fun c7 => ?_) (fun c7 => ?_)
      · replace hf := if_f c7 hf
        refine k_aload_n (pc' := 47) h dX6_put_46 rfl rfl 0 rfl ?_
        refine k_get (v := .ref (al (oM G) 6)) (pc' := 50) h dX6_put_47 rfl bM_mo fl_X6_29 rfl ?_
        refine k_bipush (pc' := 52) h dX6_put_50 rfl cb_60 ?_
        refine k_iload_n (pc' := 53) h dX6_put_52 rfl rfl 1 rfl ?_
        refine k_imul (pc' := 54) h dX6_put_53 rfl ?_
        refine k_iload_n (pc' := 55) h dX6_put_54 rfl rfl 2 rfl ?_
        refine k_iadd (pc' := 56) h dX6_put_55 rfl ?_
        have g8 := gd_1 hf
        replace hf := gd_2 hf
        refine k_bald (pc' := 57) h dX6_put_56 rfl aM_6 g8 ?_
        obtain ⟨y9, hy9, hf⟩ := lw_s hf
        refine k_eqi hy9 ?_
        refine k_istore (lv' := [(0, .ref (al (oM G) 0)), (1, .int x0), (2, .int x1), (3, .int x2), (4, .int y9)]) (pc' := 59) h dX6_put_57 rfl (Nat.le_of_ble_eq_true rfl) [1, 2, 3, 4, 0] rfl ?_
        refine k_aload_n (pc' := 60) h dX6_put_59 rfl rfl 0 rfl ?_
        refine k_get (v := .ref (al (oM G) 6)) (pc' := 63) h dX6_put_60 rfl bM_mo fl_X6_29 rfl ?_
        refine k_bipush (pc' := 65) h dX6_put_63 rfl cb_60 ?_
        refine k_iload_n (pc' := 66) h dX6_put_65 rfl rfl 1 rfl ?_
        refine k_imul (pc' := 67) h dX6_put_66 rfl ?_
        refine k_iload_n (pc' := 68) h dX6_put_67 rfl rfl 2 rfl ?_
        refine k_iadd (pc' := 69) h dX6_put_68 rfl ?_
        refine k_iload_n (pc' := 70) h dX6_put_69 rfl rfl 3 rfl ?_
        refine k_i2b (pc' := 71) h dX6_put_70 rfl ?_
        have g10 := gd_1 hf
        replace hf := gd_2 hf
        refine k_bast (pc' := 72) h dX6_put_71 rfl aM_6 g10 ?_
        obtain ⟨s11, hs11, hf⟩ := ls_s hf
        refine k_st hs11 ?_
        refine k_sipush (pc' := 75) h dX6_put_72 rfl cs_1000 ?_
        refine k_iload (pc' := 77) h dX6_put_75 rfl 4 rfl ?_
        refine k_iadd (pc' := 78) h dX6_put_77 rfl ?_
        exact k_iret h r dX6_put_78 (lf_i hf)
      · replace hf := if_t c7 hf
        refine k_aload_n (pc' := 41) h dX6_put_40 rfl rfl 0 rfl ?_
        refine k_iconst (pc' := 42) h dX6_put_41 rfl ci_2 ?_
        obtain ⟨q12, hq12, hf⟩ := bd_s hf
        refine k_callV (As := [.int (2 : Int32)]) (rest := []) (rv := some (.int q12.1)) (st' := q12.2) (stk' := [.int q12.1]) (pc' := 45) h dX6_put_42 rfl ml_X6_97 wc_X6_meets wi_X6_meets ⟨Nat.le_of_ble_eq_true rfl, Nat.le_of_ble_eq_true rfl⟩ bM_mo rfl rfl rfl rfl (Nat.le_of_ble_eq_true rfl) (fun l => c_X6_meets l (2 : Int32) q6.2  _ _ hq12) rfl ?_
        exact k_iret h r dX6_put_45 (lf_i hf)
    · replace hf := if_f c4 hf
      refine k_aload_n (pc' := 19) h dX6_put_18 rfl rfl 0 rfl ?_
      refine k_iconst (pc' := 20) h dX6_put_19 rfl ci_1 ?_
      obtain ⟨q13, hq13, hf⟩ := bd_s hf
      refine k_callV (As := [.int (1 : Int32)]) (rest := []) (rv := some (.int q13.1)) (st' := q13.2) (stk' := [.int q13.1]) (pc' := 23) h dX6_put_20 rfl ml_X6_97 wc_X6_meets wi_X6_meets ⟨Nat.le_of_ble_eq_true rfl, Nat.le_of_ble_eq_true rfl⟩ bM_mo rfl rfl rfl rfl (Nat.le_of_ble_eq_true rfl) (fun l => c_X6_meets l (1 : Int32) q1.2  _ _ hq13) rfl ?_
      exact k_iret h r dX6_put_23 (lf_i hf)
  · replace hf := if_t c2 hf
    refine k_iconst (pc' := 8) h dX6_put_7 rfl ci_m1 ?_
    exact k_iret h r dX6_put_8 (lf_i hf)
noncomputable def f_X6_byteAt (x0 : Int32) (x1 : Int32) (st : St) : Option (Int32 × St) :=
  (gd (inb x0 4) (if (st.1 5 x0.toNatClampNeg) ≤ x1 then (some ((0 : Int32), st)) else (gd (inb (((60 : Int32) * x0) + x1) 240) (some (st.1 6 (((60 : Int32) * x0) + x1).toNatClampNeg, st)))))
set_option maxHeartbeats 4000000 in
theorem c_X6_byteAt {G : GG} (l : Launch) (x0 : Int32) (x1 : Int32) (st : St)  (rr : Int32) (st' : St) (hf : f_X6_byteAt x0 x1 st = some (rr, st')) : MM l yX6_byteAt cX6_byteAt 3 (some .int) 0 (oM G) [.ref (al (oM G) 0), .int x0, .int x1] st (some (.int rr)) st' := by
  refine mk_MM (by decide +kernel) (Nat.le_of_ble_eq_true rfl) (fun X h r => ?_)
  refine k_sub (lv' := [(0, .ref (al (oM G) 0)), (1, .int x0), (2, .int x1)]) [0, 1, 2] rfl ?_
  unfold f_X6_byteAt at hf
  refine k_iload_n (pc' := 1) h dX6_byteAt_0 rfl rfl 2 rfl ?_
  refine k_aload_n (pc' := 2) h dX6_byteAt_1 rfl rfl 0 rfl ?_
  refine k_get (v := .ref (al (oM G) 5)) (pc' := 5) h dX6_byteAt_2 rfl bM_mo fl_X6_26 rfl ?_
  refine k_iload_n (pc' := 6) h dX6_byteAt_5 rfl rfl 1 rfl ?_
  have g1 := gd_1 hf
  replace hf := gd_2 hf
  refine k_iald (pc' := 7) h dX6_byteAt_6 rfl aM_5 g1 ?_
  refine k_icmp_ge (tgt := 24) (pc' := 10) h dX6_byteAt_7 rfl rfl (fun c2 => ?_) (fun c2 => ?_)
  · replace hf := if_t c2 hf
    refine k_iconst (pc' := 25) h dX6_byteAt_24 rfl ci_0 ?_
    exact k_iret h r dX6_byteAt_25 (lf_i hf)
  · replace hf := if_f c2 hf
    refine k_aload_n (pc' := 11) h dX6_byteAt_10 rfl rfl 0 rfl ?_
    refine k_get (v := .ref (al (oM G) 6)) (pc' := 14) h dX6_byteAt_11 rfl bM_mo fl_X6_29 rfl ?_
    refine k_bipush (pc' := 16) h dX6_byteAt_14 rfl cb_60 ?_
    refine k_iload_n (pc' := 17) h dX6_byteAt_16 rfl rfl 1 rfl ?_
    refine k_imul (pc' := 18) h dX6_byteAt_17 rfl ?_
    refine k_iload_n (pc' := 19) h dX6_byteAt_18 rfl rfl 2 rfl ?_
    refine k_iadd (pc' := 20) h dX6_byteAt_19 rfl ?_
    have g3 := gd_1 hf
    replace hf := gd_2 hf
    refine k_bald (pc' := 21) h dX6_byteAt_20 rfl aM_6 g3 ?_
    refine k_goto (tgt := 25) h dX6_byteAt_21 rfl ?_
    exact k_iret h r dX6_byteAt_25 (lf_i hf)
noncomputable def l_X6_layRow_10 (p1 : Int32) (p3 : Int32) (v4 : Int32) (st : St) : Option ((Int32 × St) ⊕ (Int32 × St)) :=
  (if (40 : Int32) ≤ v4 then (some (.inr (v4, st))) else (if p3 ≤ v4 then (gd (inb (((40 : Int32) * p1) + v4) 240) (ls (sA st 3 (upd (st.1 3) (((40 : Int32) * p1) + v4).toNatClampNeg (0 : Int32))) (fun s6 => (some (.inl (v4 + (1 : Int32), s6)))))) else (gd (inb v4 6) (gd (inb (((40 : Int32) * p1) + v4) 240) (ls (sA st 3 (upd (st.1 3) (((40 : Int32) * p1) + v4).toNatClampNeg (st.1 21 v4.toNatClampNeg))) (fun s9 => (some (.inl (v4 + (1 : Int32), s9)))))))))
set_option maxHeartbeats 4000000 in
theorem w_X6_layRow_10 {G : GG} {X : Cx} (h : Ok X (oM G) cX6_layRow RX6 5 (RM 0))  (p1 : Int32) (p3 : Int32)  (n : Nat) (v4 : Int32) (st : St) (q : Int32 × St) (hq : iter (fun v : Int32 × St => l_X6_layRow_10 p1 p3 v.1 v.2) n (v4, st) = some q) (kx : Wk X (oM G) 5 q.2 49 [(0, .ref (al (oM G) 0)), (1, .int p1), (2, .ref (al (oM G) 21)), (3, .int p3), (4, .int q.1)] []) : Wk X (oM G) 5 st 10 [(0, .ref (al (oM G) 0)), (1, .int p1), (2, .ref (al (oM G) 21)), (3, .int p3), (4, .int v4)] [] := by
  refine iter_rule (hd := (fun v : Int32 × St => Wk X (oM G) 5 v.2 10 [(0, .ref (al (oM G) 0)), (1, .int p1), (2, .ref (al (oM G) 21)), (3, .int p3), (4, .int v.1)] [])) (ex := (fun v : Int32 × St => Wk X (oM G) 5 v.2 49 [(0, .ref (al (oM G) 0)), (1, .int p1), (2, .ref (al (oM G) 21)), (3, .int p3), (4, .int v.1)] [])) ?_ n (v4, st) q hq kx
  rintro ⟨v4, st⟩ oo hbv K
  show Wk X (oM G) 5 st 10 [(0, .ref (al (oM G) 0)), (1, .int p1), (2, .ref (al (oM G) 21)), (3, .int p3), (4, .int v4)] []
  have hf : l_X6_layRow_10 p1 p3 v4 st = some oo := hbv
  unfold l_X6_layRow_10 at hf
  refine k_iload (pc' := 12) h dX6_layRow_10 rfl 4 rfl ?_
  refine k_bipush (pc' := 14) h dX6_layRow_12 rfl cb_40 ?_
  refine k_icmp_ge (tgt := 49) (pc' := 17) h dX6_layRow_14 rfl rfl (fun c3 => ?_) (fun c3 => ?_)
  · replace hf := if_t c3 hf
    refine k_sub (lv' := [(0, .ref (al (oM G) 0)), (1, .int p1), (2, .ref (al (oM G) 21)), (3, .int p3), (4, .int v4)]) [0, 1, 2, 3, 4] rfl ?_
    exact lp_o hf K
  · replace hf := if_f c3 hf
    refine k_aload_n (pc' := 18) h dX6_layRow_17 rfl rfl 0 rfl ?_
    refine k_get (v := .ref (al (oM G) 3)) (pc' := 21) h dX6_layRow_18 rfl bM_mo fl_X6_20 rfl ?_
    refine k_bipush (pc' := 23) h dX6_layRow_21 rfl cb_40 ?_
    refine k_iload_n (pc' := 24) h dX6_layRow_23 rfl rfl 1 rfl ?_
    refine k_imul (pc' := 25) h dX6_layRow_24 rfl ?_
    refine k_iload (pc' := 27) h dX6_layRow_25 rfl 4 rfl ?_
    refine k_iadd (pc' := 28) h dX6_layRow_27 rfl ?_
    refine k_iload (pc' := 30) h dX6_layRow_28 rfl 4 rfl ?_
    refine k_iload_n (pc' := 31) h dX6_layRow_30 rfl rfl 3 rfl ?_
    refine k_icmp_ge (tgt := 41) (pc' := 34) h dX6_layRow_31 rfl rfl (fun c4 => ?_) (fun c4 => ?_)
    · replace hf := if_t c4 hf
      refine k_iconst (pc' := 42) h dX6_layRow_41 rfl ci_0 ?_
      have g5 := gd_1 hf
      replace hf := gd_2 hf
      refine k_iast (pc' := 43) h dX6_layRow_42 rfl aM_3 g5 ?_
      obtain ⟨s6, hs6, hf⟩ := ls_s hf
      refine k_st hs6 ?_
      refine k_iinc (lv' := [(0, .ref (al (oM G) 0)), (1, .int p1), (2, .ref (al (oM G) 21)), (3, .int p3), (4, .int (v4 + (1 : Int32)))]) (pc' := 46) h dX6_layRow_43 rfl 4 rfl (congrArg (fun z => v4 + z) ci_1) (Nat.le_of_ble_eq_true rfl) [1, 2, 3, 4, 0] rfl ?_
      refine k_goto (tgt := 10) h dX6_layRow_46 rfl ?_
      refine k_sub (lv' := [(0, .ref (al (oM G) 0)), (1, .int p1), (2, .ref (al (oM G) 21)), (3, .int p3), (4, .int (v4 + (1 : Int32)))]) [0, 1, 2, 3, 4] rfl ?_
      exact lp_o hf K
    · replace hf := if_f c4 hf
      refine k_aload_n (pc' := 35) h dX6_layRow_34 rfl rfl 2 rfl ?_
      refine k_iload (pc' := 37) h dX6_layRow_35 rfl 4 rfl ?_
      have g7 := gd_1 hf
      replace hf := gd_2 hf
      refine k_iald (pc' := 38) h dX6_layRow_37 rfl aM_21 g7 ?_
      refine k_goto (tgt := 42) h dX6_layRow_38 rfl ?_
      have g8 := gd_1 hf
      replace hf := gd_2 hf
      refine k_iast (pc' := 43) h dX6_layRow_42 rfl aM_3 g8 ?_
      obtain ⟨s9, hs9, hf⟩ := ls_s hf
      refine k_st hs9 ?_
      refine k_iinc (lv' := [(0, .ref (al (oM G) 0)), (1, .int p1), (2, .ref (al (oM G) 21)), (3, .int p3), (4, .int (v4 + (1 : Int32)))]) (pc' := 46) h dX6_layRow_43 rfl 4 rfl (congrArg (fun z => v4 + z) ci_1) (Nat.le_of_ble_eq_true rfl) [1, 2, 3, 4, 0] rfl ?_
      refine k_goto (tgt := 10) h dX6_layRow_46 rfl ?_
      refine k_sub (lv' := [(0, .ref (al (oM G) 0)), (1, .int p1), (2, .ref (al (oM G) 21)), (3, .int p3), (4, .int (v4 + (1 : Int32)))]) [0, 1, 2, 3, 4] rfl ?_
      exact lp_o hf K
noncomputable def f_X6_layRow (x0 : Int32) (x2 : Int32) (st : St) : Option (St) :=
  (gd (inb x0 6) (ls (sA st 2 (upd (st.1 2) x0.toNatClampNeg x2)) (fun s2 => ((iter (fun v : Int32 × St => l_X6_layRow_10 x0 x2 v.1 v.2) fuel ((0 : Int32), s2)).bind (fun q10 => (some q10.2))))))
set_option maxHeartbeats 4000000 in
theorem c_X6_layRow {G : GG} (l : Launch) (x0 : Int32) (x2 : Int32) (st : St)  (st' : St) (hf : f_X6_layRow x0 x2 st = some st') : MM l yX6_layRow cX6_layRow 5 none 0 (oM G) [.ref (al (oM G) 0), .int x0, .ref (al (oM G) 21), .int x2] st none st' := by
  refine mk_MM (by decide +kernel) (Nat.le_of_ble_eq_true rfl) (fun X h r => ?_)
  refine k_sub (lv' := [(0, .ref (al (oM G) 0)), (1, .int x0), (2, .ref (al (oM G) 21)), (3, .int x2)]) [0, 1, 2, 3] rfl ?_
  unfold f_X6_layRow at hf
  refine k_aload_n (pc' := 1) h dX6_layRow_0 rfl rfl 0 rfl ?_
  refine k_get (v := .ref (al (oM G) 2)) (pc' := 4) h dX6_layRow_1 rfl bM_mo fl_X6_17 rfl ?_
  refine k_iload_n (pc' := 5) h dX6_layRow_4 rfl rfl 1 rfl ?_
  refine k_iload_n (pc' := 6) h dX6_layRow_5 rfl rfl 3 rfl ?_
  have g1 := gd_1 hf
  replace hf := gd_2 hf
  refine k_iast (pc' := 7) h dX6_layRow_6 rfl aM_2 g1 ?_
  obtain ⟨s2, hs2, hf⟩ := ls_s hf
  refine k_st hs2 ?_
  refine k_iconst (pc' := 8) h dX6_layRow_7 rfl ci_0 ?_
  refine k_istore (lv' := [(0, .ref (al (oM G) 0)), (1, .int x0), (2, .ref (al (oM G) 21)), (3, .int x2), (4, .int (0 : Int32))]) (pc' := 10) h dX6_layRow_8 rfl (Nat.le_of_ble_eq_true rfl) [1, 2, 3, 4, 0] rfl ?_
  obtain ⟨q10, hq10, hf⟩ := bd_s hf
  refine w_X6_layRow_10 h x0 x2  fuel (0 : Int32) s2 q10 hq10 ?_
  exact k_vret h r dX6_layRow_49 (lf_v hf)
