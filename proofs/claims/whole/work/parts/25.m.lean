noncomputable def f_X6_kindOf (x0 : Int32) (st : St) : Option (Int32 × St) :=
  (if x0 = (99 : Int32) then (some ((2 : Int32), st)) else (if x0 = (102 : Int32) then (some ((5 : Int32), st)) else (if x0 = (104 : Int32) then (some ((3 : Int32), st)) else (if x0 = (114 : Int32) then (some ((0 : Int32), st)) else (if x0 = (115 : Int32) then (some ((1 : Int32), st)) else (if x0 = (121 : Int32) then (some ((4 : Int32), st)) else (some ((-9 : Int32), st))))))))
set_option maxHeartbeats 4000000 in
theorem c_X6_kindOf {G : GG} (l : Launch) (x0 : Int32) (st : St)  (rr : Int32) (st' : St) (hf : f_X6_kindOf x0 st = some (rr, st')) : MM l yX6_kindOf cX6_kindOf 1 (some .int) 0 (oM G) [.int x0] st (some (.int rr)) st' := by
  refine mk_MM (by decide +kernel) (Nat.le_of_ble_eq_true rfl) (fun X h r => ?_)
  refine k_sub (lv' := [(0, .int x0)]) [0] rfl ?_
  unfold f_X6_kindOf at hf
  refine k_iload_n (pc' := 1) h dX6_kindOf_0 rfl rfl 0 rfl ?_
  by_cases c1 : x0 = (99 : Int32)
  · replace hf := if_t c1 hf
    refine k_lsw (tgt := 64) (off := 63) h dX6_kindOf_1 (by decide +kernel) (by rw [c1]; decide +kernel) rfl ?_
    refine k_iconst (pc' := 65) h dX6_kindOf_64 rfl ci_2 ?_
    exact k_iret h r dX6_kindOf_65 (lf_i hf)
  replace hf := if_f c1 hf
  by_cases c2 : x0 = (102 : Int32)
  · replace hf := if_t c2 hf
    refine k_lsw (tgt := 70) (off := 69) h dX6_kindOf_1 (by decide +kernel) (by rw [c2]; decide +kernel) rfl ?_
    refine k_iconst (pc' := 71) h dX6_kindOf_70 rfl ci_5 ?_
    exact k_iret h r dX6_kindOf_71 (lf_i hf)
  replace hf := if_f c2 hf
  by_cases c3 : x0 = (104 : Int32)
  · replace hf := if_t c3 hf
    refine k_lsw (tgt := 66) (off := 65) h dX6_kindOf_1 (by decide +kernel) (by rw [c3]; decide +kernel) rfl ?_
    refine k_iconst (pc' := 67) h dX6_kindOf_66 rfl ci_3 ?_
    exact k_iret h r dX6_kindOf_67 (lf_i hf)
  replace hf := if_f c3 hf
  by_cases c4 : x0 = (114 : Int32)
  · replace hf := if_t c4 hf
    refine k_lsw (tgt := 60) (off := 59) h dX6_kindOf_1 (by decide +kernel) (by rw [c4]; decide +kernel) rfl ?_
    refine k_iconst (pc' := 61) h dX6_kindOf_60 rfl ci_0 ?_
    exact k_iret h r dX6_kindOf_61 (lf_i hf)
  replace hf := if_f c4 hf
  by_cases c5 : x0 = (115 : Int32)
  · replace hf := if_t c5 hf
    refine k_lsw (tgt := 62) (off := 61) h dX6_kindOf_1 (by decide +kernel) (by rw [c5]; decide +kernel) rfl ?_
    refine k_iconst (pc' := 63) h dX6_kindOf_62 rfl ci_1 ?_
    exact k_iret h r dX6_kindOf_63 (lf_i hf)
  replace hf := if_f c5 hf
  by_cases c6 : x0 = (121 : Int32)
  · replace hf := if_t c6 hf
    refine k_lsw (tgt := 68) (off := 67) h dX6_kindOf_1 (by decide +kernel) (by rw [c6]; decide +kernel) rfl ?_
    refine k_iconst (pc' := 69) h dX6_kindOf_68 rfl ci_4 ?_
    exact k_iret h r dX6_kindOf_69 (lf_i hf)
  replace hf := if_f c6 hf
  refine k_lsw (tgt := 72) (off := 71) h dX6_kindOf_1 (by decide +kernel) (by show Op.lookupswitch.offset [(99, 63), (102, 69), (104, 65), (114, 59), (115, 61), (121, 67)] 71 _ = _; rw [lv_osw c1 (by decide +kernel), lv_osw c2 (by decide +kernel), lv_osw c3 (by decide +kernel), lv_osw c4 (by decide +kernel), lv_osw c5 (by decide +kernel), lv_osw c6 (by decide +kernel)]; rfl) rfl ?_
  refine k_bipush (pc' := 74) h dX6_kindOf_72 rfl cb_m9 ?_
  exact k_iret h r dX6_kindOf_74 (lf_i hf)
noncomputable def f_X6_lowOf (x0 : Int32) (st : St) : Option (Int32 × St) :=
  (if x0 = (5 : Int32) then (some ((1 : Int32), st)) else (some ((0 : Int32), st)))
set_option maxHeartbeats 4000000 in
theorem c_X6_lowOf {G : GG} (l : Launch) (x0 : Int32) (st : St)  (rr : Int32) (st' : St) (hf : f_X6_lowOf x0 st = some (rr, st')) : MM l yX6_lowOf cX6_lowOf 1 (some .int) 0 (oM G) [.int x0] st (some (.int rr)) st' := by
  refine mk_MM (by decide +kernel) (Nat.le_of_ble_eq_true rfl) (fun X h r => ?_)
  refine k_sub (lv' := [(0, .int x0)]) [0] rfl ?_
  unfold f_X6_lowOf at hf
  refine k_iload_n (pc' := 1) h dX6_lowOf_0 rfl rfl 0 rfl ?_
  refine k_iconst (pc' := 2) h dX6_lowOf_1 rfl ci_5 ?_
  refine k_icmp_ne (tgt := 9) (pc' := 5) h dX6_lowOf_2 rfl rfl (fun c1 => ?_) (fun c1 => ?_)
  · replace hf := if_f c1 hf
    refine k_iconst (pc' := 10) h dX6_lowOf_9 rfl ci_0 ?_
    exact k_iret h r dX6_lowOf_10 (lf_i hf)
  · replace hf := if_t c1 hf
    refine k_iconst (pc' := 6) h dX6_lowOf_5 rfl ci_1 ?_
    refine k_goto (tgt := 10) h dX6_lowOf_6 rfl ?_
    exact k_iret h r dX6_lowOf_10 (lf_i hf)
noncomputable def f_X6_highOf (x0 : Int32) (st : St) : Option (Int32 × St) :=
  (if (3 : Int32) ≤ x0 then (if (5 : Int32) ≤ x0 then (some ((9 : Int32), st)) else (some ((5 : Int32), st))) else (some ((3 : Int32), st)))
set_option maxHeartbeats 4000000 in
theorem c_X6_highOf {G : GG} (l : Launch) (x0 : Int32) (st : St)  (rr : Int32) (st' : St) (hf : f_X6_highOf x0 st = some (rr, st')) : MM l yX6_highOf cX6_highOf 1 (some .int) 0 (oM G) [.int x0] st (some (.int rr)) st' := by
  refine mk_MM (by decide +kernel) (Nat.le_of_ble_eq_true rfl) (fun X h r => ?_)
  refine k_sub (lv' := [(0, .int x0)]) [0] rfl ?_
  unfold f_X6_highOf at hf
  refine k_iload_n (pc' := 1) h dX6_highOf_0 rfl rfl 0 rfl ?_
  refine k_iconst (pc' := 2) h dX6_highOf_1 rfl ci_3 ?_
  refine k_icmp_ge (tgt := 9) (pc' := 5) h dX6_highOf_2 rfl rfl (fun c1 => ?_) (fun c1 => ?_)
  · replace hf := if_t c1 hf
    refine k_iload_n (pc' := 10) h dX6_highOf_9 rfl rfl 0 rfl ?_
    refine k_iconst (pc' := 11) h dX6_highOf_10 rfl ci_5 ?_
    refine k_icmp_ge (tgt := 18) (pc' := 14) h dX6_highOf_11 rfl rfl (fun c2 => ?_) (fun c2 => ?_)
    · replace hf := if_t c2 hf
      refine k_bipush (pc' := 20) h dX6_highOf_18 rfl cb_9 ?_
      exact k_iret h r dX6_highOf_20 (lf_i hf)
    · replace hf := if_f c2 hf
      refine k_iconst (pc' := 15) h dX6_highOf_14 rfl ci_5 ?_
      refine k_goto (tgt := 20) h dX6_highOf_15 rfl ?_
      exact k_iret h r dX6_highOf_20 (lf_i hf)
  · replace hf := if_f c1 hf
    refine k_iconst (pc' := 6) h dX6_highOf_5 rfl ci_3 ?_
    refine k_goto (tgt := 20) h dX6_highOf_6 rfl ?_
    exact k_iret h r dX6_highOf_20 (lf_i hf)
noncomputable def l_X6_readsOne_58 (p1 : Int32) (p2 : Int32) (p3 : Int32) (v4 : Int32) (st : St) : Option ((Int32 × St) ⊕ ((Int32 × St) ⊕ (Int32 × St))) :=
  (if (6 : Int32) ≤ v4 then (some (.inr (.inr (v4, st)))) else ((f_X6_byteAt p1 (st.1 0 17) st).bind (fun q10 => (lw (q10.1 - (48 : Int32)) (fun y11 => ((f_X6_lowOf v4 q10.2).bind (fun q12 => ((f_X6_highOf v4 q12.2).bind (fun q13 => ((f_X6_in y11 q12.1 q13.1 q13.2).bind (fun q14 => (if q14.1 = 0 then (some (.inr (.inl ((0 : Int32), q14.2)))) else (gd (inb (p3 + v4) 36) (ls (sA q14.2 13 (upd (q14.2.1 13) (p3 + v4).toNatClampNeg y11)) (fun s17 => (ls (sA s17 0 (upd (s17.1 0) 17 ((s17.1 0 17) + (1 : Int32)))) (fun s18 => (some (.inl (v4 + (1 : Int32), s18))))))))))))))))))))
set_option maxHeartbeats 4000000 in
theorem w_X6_readsOne_58 {G : GG} {X : Cx} (h : Ok X (oM G) cX6_readsOne RX6 6 (RM 1)) {P : Option Value → St → Prop} (r : Rt X (oM G) P (some .boolean)) (p1 : Int32) (p2 : Int32) (p3 : Int32)  (n : Nat) (v4 : Int32) (st : St) (q : (Int32 × St) ⊕ (Int32 × St)) (hq : iter (fun v : Int32 × St => l_X6_readsOne_58 p1 p2 p3 v.1 v.2) n (v4, st) = some q) (kr : ∀ rs, q = .inl rs → P (some (.int rs.1)) rs.2) (kx : ∀ v : Int32 × St, q = .inr v → Wk X (oM G) 6 v.2 126 [(0, .ref (al (oM G) 0)), (1, .int p1), (2, .int p2), (3, .int p3), (4, .int v.1)] []) : Wk X (oM G) 6 st 58 [(0, .ref (al (oM G) 0)), (1, .int p1), (2, .int p2), (3, .int p3), (4, .int v4)] [] := by
  refine iter_rule (hd := (fun v : Int32 × St => Wk X (oM G) 6 v.2 58 [(0, .ref (al (oM G) 0)), (1, .int p1), (2, .int p2), (3, .int p3), (4, .int v.1)] [])) (ex := (Sum.elim (fun rs : Int32 × St => P (some (.int rs.1)) rs.2) (fun v : Int32 × St => Wk X (oM G) 6 v.2 126 [(0, .ref (al (oM G) 0)), (1, .int p1), (2, .int p2), (3, .int p3), (4, .int v.1)] []))) ?_ n (v4, st) q hq (by cases q with
    | inl rs => exact kr rs rfl
    | inr v => exact kx v rfl)
  rintro ⟨v4, st⟩ oo hbv K
  show Wk X (oM G) 6 st 58 [(0, .ref (al (oM G) 0)), (1, .int p1), (2, .int p2), (3, .int p3), (4, .int v4)] []
  have hf : l_X6_readsOne_58 p1 p2 p3 v4 st = some oo := hbv
  unfold l_X6_readsOne_58 at hf
  refine k_iload (pc' := 60) h dX6_readsOne_58 rfl 4 rfl ?_
  refine k_bipush (pc' := 62) h dX6_readsOne_60 rfl cb_6 ?_
  refine k_icmp_ge (tgt := 126) (pc' := 65) h dX6_readsOne_62 rfl rfl (fun c9 => ?_) (fun c9 => ?_)
  · replace hf := if_t c9 hf
    refine k_sub (lv' := [(0, .ref (al (oM G) 0)), (1, .int p1), (2, .int p2), (3, .int p3), (4, .int v4)]) [0, 1, 2, 3, 4] rfl ?_
    exact lp_o hf K
  · replace hf := if_f c9 hf
    refine k_aload_n (pc' := 66) h dX6_readsOne_65 rfl rfl 0 rfl ?_
    refine k_iload_n (pc' := 67) h dX6_readsOne_66 rfl rfl 1 rfl ?_
    refine k_aload_n (pc' := 68) h dX6_readsOne_67 rfl rfl 0 rfl ?_
    refine k_get (v := .int (st.1 0 17)) (pc' := 71) h dX6_readsOne_68 rfl bM_mo fl_X6_111 rfl ?_
    obtain ⟨q10, hq10, hf⟩ := bd_s hf
    refine k_callV (As := [.int p1, .int (st.1 0 17)]) (rest := []) (rv := some (.int q10.1)) (st' := q10.2) (stk' := [.int q10.1]) (pc' := 74) h dX6_readsOne_71 rfl ml_X6_114 wc_X6_byteAt wi_X6_byteAt ⟨Nat.le_of_ble_eq_true rfl, Nat.le_of_ble_eq_true rfl⟩ bM_mo rfl rfl rfl rfl (Nat.le_of_ble_eq_true rfl) (fun l => c_X6_byteAt l p1 (st.1 0 17) st  _ _ hq10) rfl ?_
    refine k_bipush (pc' := 76) h dX6_readsOne_74 rfl cb_48 ?_
    refine k_isub (pc' := 77) h dX6_readsOne_76 rfl ?_
    obtain ⟨y11, hy11, hf⟩ := lw_s hf
    refine k_eqi hy11 ?_
    refine k_istore (lv' := [(0, .ref (al (oM G) 0)), (1, .int p1), (2, .int p2), (3, .int p3), (4, .int v4), (5, .int y11)]) (pc' := 79) h dX6_readsOne_77 rfl (Nat.le_of_ble_eq_true rfl) [1, 2, 3, 4, 5, 0] rfl ?_
    refine k_iload (pc' := 81) h dX6_readsOne_79 rfl 5 rfl ?_
    refine k_iload (pc' := 83) h dX6_readsOne_81 rfl 4 rfl ?_
    obtain ⟨q12, hq12, hf⟩ := bd_s hf
    refine k_callS (As := [.int v4]) (rest := [.int y11]) (rv := some (.int q12.1)) (st' := q12.2) (stk' := [.int q12.1, .int y11]) (pc' := 86) h dX6_readsOne_83 rfl ml_X6_123 wc_X6_lowOf ws_X6_lowOf ⟨Nat.le_of_ble_eq_true rfl, Nat.le_of_ble_eq_true rfl⟩ rfl rfl (Nat.le_of_ble_eq_true rfl) (fun l => c_X6_lowOf l v4 q10.2  _ _ hq12) rfl ?_
    refine k_iload (pc' := 88) h dX6_readsOne_86 rfl 4 rfl ?_
    obtain ⟨q13, hq13, hf⟩ := bd_s hf
    refine k_callS (As := [.int v4]) (rest := [.int q12.1, .int y11]) (rv := some (.int q13.1)) (st' := q13.2) (stk' := [.int q13.1, .int q12.1, .int y11]) (pc' := 91) h dX6_readsOne_88 rfl ml_X6_126 wc_X6_highOf ws_X6_highOf ⟨Nat.le_of_ble_eq_true rfl, Nat.le_of_ble_eq_true rfl⟩ rfl rfl (Nat.le_of_ble_eq_true rfl) (fun l => c_X6_highOf l v4 q12.2  _ _ hq13) rfl ?_
    obtain ⟨q14, hq14, hf⟩ := bd_s hf
    refine k_callS (As := [.int y11, .int q12.1, .int q13.1]) (rest := []) (rv := some (.int q14.1)) (st' := q14.2) (stk' := [.int q14.1]) (pc' := 94) h dX6_readsOne_91 rfl ml_X6_83 wc_X6_in ws_X6_in ⟨Nat.le_of_ble_eq_true rfl, Nat.le_of_ble_eq_true rfl⟩ rfl rfl (Nat.le_of_ble_eq_true rfl) (fun l => c_X6_in l y11 q12.1 q13.1 q13.2  _ _ hq14) rfl ?_
    refine k_if_ne (tgt := 99) (pc' := 97) h dX6_readsOne_94 rfl rfl (fun c15 => ?_) (fun c15 => ?_)
    · replace hf := if_f c15 hf
      refine k_aload_n (pc' := 100) h dX6_readsOne_99 rfl rfl 0 rfl ?_
      refine k_get (v := .ref (al (oM G) 13)) (pc' := 103) h dX6_readsOne_100 rfl bM_mo fl_X6_51 rfl ?_
      refine k_iload_n (pc' := 104) h dX6_readsOne_103 rfl rfl 3 rfl ?_
      refine k_iload (pc' := 106) h dX6_readsOne_104 rfl 4 rfl ?_
      refine k_iadd (pc' := 107) h dX6_readsOne_106 rfl ?_
      refine k_iload (pc' := 109) h dX6_readsOne_107 rfl 5 rfl ?_
      have g16 := gd_1 hf
      replace hf := gd_2 hf
      refine k_iast (pc' := 110) h dX6_readsOne_109 rfl aM_13 g16 ?_
      obtain ⟨s17, hs17, hf⟩ := ls_s hf
      refine k_st hs17 ?_
      refine k_aload_n (pc' := 111) h dX6_readsOne_110 rfl rfl 0 rfl ?_
      refine k_dup (pc' := 112) h dX6_readsOne_111 rfl rfl ?_
      refine k_get (v := .int (s17.1 0 17)) (pc' := 115) h dX6_readsOne_112 rfl bM_mo fl_X6_111 rfl ?_
      refine k_iconst (pc' := 116) h dX6_readsOne_115 rfl ci_1 ?_
      refine k_iadd (pc' := 117) h dX6_readsOne_116 rfl ?_
      refine k_put (pc' := 120) h dX6_readsOne_117 rfl bM_mo fp_X6_111 sf_mo_17 sj_mo_17 ?_
      obtain ⟨s18, hs18, hf⟩ := ls_s hf
      refine k_st hs18 ?_
      refine k_iinc (lv' := [(0, .ref (al (oM G) 0)), (1, .int p1), (2, .int p2), (3, .int p3), (4, .int (v4 + (1 : Int32))), (5, .int y11)]) (pc' := 123) h dX6_readsOne_120 rfl 4 rfl (congrArg (fun z => v4 + z) ci_1) (Nat.le_of_ble_eq_true rfl) [1, 2, 3, 4, 0, 5] rfl ?_
      refine k_goto (tgt := 58) h dX6_readsOne_123 rfl ?_
      refine k_sub (lv' := [(0, .ref (al (oM G) 0)), (1, .int p1), (2, .int p2), (3, .int p3), (4, .int (v4 + (1 : Int32)))]) [0, 1, 2, 3, 4] rfl ?_
      exact lp_o hf K
    · replace hf := if_t c15 hf
      refine k_iconst (pc' := 98) h dX6_readsOne_97 rfl ci_0 ?_
      exact k_zret h r dX6_readsOne_98 (by decide) (lp_o hf K)
noncomputable def f_X6_readsOne (x0 : Int32) (st : St) : Option (Int32 × St) :=
  ((f_X6_byteAt x0 (st.1 0 17) st).bind (fun q1 => ((f_X6_kindOf q1.1 q1.2).bind (fun q2 => (if q2.1 = (-9 : Int32) then (some ((0 : Int32), q2.2)) else (if (q2.2.1 0 18) = (6 : Int32) then (some ((0 : Int32), q2.2)) else (lw ((6 : Int32) * (q2.2.1 0 18)) (fun y5 => (ls (sA q2.2 0 (upd (q2.2.1 0) 17 ((q2.2.1 0 17) + (1 : Int32)))) (fun s6 => (gd (inb y5 36) (ls (sA s6 13 (upd (s6.1 13) y5.toNatClampNeg q2.1)) (fun s8 => ((iter (fun v : Int32 × St => l_X6_readsOne_58 x0 q2.1 y5 v.1 v.2) fuel ((1 : Int32), s8)).bind (fun q19 => Sum.elim (fun rs21 => some rs21) (fun v20 => (ls (sA v20.2 0 (upd (v20.2.1 0) 18 ((v20.2.1 0 18) + (1 : Int32)))) (fun s22 => (some ((1 : Int32), s22))))) q19)))))))))))))))
set_option maxHeartbeats 4000000 in
theorem c_X6_readsOne {G : GG} (l : Launch) (x0 : Int32) (st : St)  (rr : Int32) (st' : St) (hf : f_X6_readsOne x0 st = some (rr, st')) : MM l yX6_readsOne cX6_readsOne 6 (some .boolean) 1 (oM G) [.ref (al (oM G) 0), .int x0] st (some (.int rr)) st' := by
  refine mk_MM (by decide +kernel) (Nat.le_of_ble_eq_true rfl) (fun X h r => ?_)
  refine k_sub (lv' := [(0, .ref (al (oM G) 0)), (1, .int x0)]) [0, 1] rfl ?_
  unfold f_X6_readsOne at hf
  refine k_aload_n (pc' := 1) h dX6_readsOne_0 rfl rfl 0 rfl ?_
  refine k_iload_n (pc' := 2) h dX6_readsOne_1 rfl rfl 1 rfl ?_
  refine k_aload_n (pc' := 3) h dX6_readsOne_2 rfl rfl 0 rfl ?_
  refine k_get (v := .int (st.1 0 17)) (pc' := 6) h dX6_readsOne_3 rfl bM_mo fl_X6_111 rfl ?_
  obtain ⟨q1, hq1, hf⟩ := bd_s hf
  refine k_callV (As := [.int x0, .int (st.1 0 17)]) (rest := []) (rv := some (.int q1.1)) (st' := q1.2) (stk' := [.int q1.1]) (pc' := 9) h dX6_readsOne_6 rfl ml_X6_114 wc_X6_byteAt wi_X6_byteAt ⟨Nat.le_of_ble_eq_true rfl, Nat.le_of_ble_eq_true rfl⟩ bM_mo rfl rfl rfl rfl (Nat.le_of_ble_eq_true rfl) (fun l => c_X6_byteAt l x0 (st.1 0 17) st  _ _ hq1) rfl ?_
  obtain ⟨q2, hq2, hf⟩ := bd_s hf
  refine k_callS (As := [.int q1.1]) (rest := []) (rv := some (.int q2.1)) (st' := q2.2) (stk' := [.int q2.1]) (pc' := 12) h dX6_readsOne_9 rfl ml_X6_117 wc_X6_kindOf ws_X6_kindOf ⟨Nat.le_of_ble_eq_true rfl, Nat.le_of_ble_eq_true rfl⟩ rfl rfl (Nat.le_of_ble_eq_true rfl) (fun l => c_X6_kindOf l q1.1 q1.2  _ _ hq2) rfl ?_
  refine k_istore_n (lv' := [(0, .ref (al (oM G) 0)), (1, .int x0), (2, .int q2.1)]) (pc' := 13) h dX6_readsOne_12 rfl rfl (Nat.le_of_ble_eq_true rfl) [1, 2, 0] rfl ?_
  refine k_iload_n (pc' := 14) h dX6_readsOne_13 rfl rfl 2 rfl ?_
  refine k_bipush (pc' := 16) h dX6_readsOne_14 rfl cb_m9 ?_
  refine k_icmp_eq (tgt := 28) (pc' := 19) h dX6_readsOne_16 rfl rfl (fun c3 => ?_) (fun c3 => ?_)
  · replace hf := if_t c3 hf
    refine k_iconst (pc' := 29) h dX6_readsOne_28 rfl ci_0 ?_
    exact k_zret h r dX6_readsOne_29 (by decide) (lf_i hf)
  · replace hf := if_f c3 hf
    refine k_aload_n (pc' := 20) h dX6_readsOne_19 rfl rfl 0 rfl ?_
    refine k_get (v := .int (q2.2.1 0 18)) (pc' := 23) h dX6_readsOne_20 rfl bM_mo fl_X6_120 rfl ?_
    refine k_bipush (pc' := 25) h dX6_readsOne_23 rfl cb_6 ?_
    refine k_icmp_ne (tgt := 30) (pc' := 28) h dX6_readsOne_25 rfl rfl (fun c4 => ?_) (fun c4 => ?_)
    · replace hf := if_f c4 hf
      refine k_bipush (pc' := 32) h dX6_readsOne_30 rfl cb_6 ?_
      refine k_aload_n (pc' := 33) h dX6_readsOne_32 rfl rfl 0 rfl ?_
      refine k_get (v := .int (q2.2.1 0 18)) (pc' := 36) h dX6_readsOne_33 rfl bM_mo fl_X6_120 rfl ?_
      refine k_imul (pc' := 37) h dX6_readsOne_36 rfl ?_
      obtain ⟨y5, hy5, hf⟩ := lw_s hf
      refine k_eqi hy5 ?_
      refine k_istore_n (lv' := [(0, .ref (al (oM G) 0)), (1, .int x0), (2, .int q2.1), (3, .int y5)]) (pc' := 38) h dX6_readsOne_37 rfl rfl (Nat.le_of_ble_eq_true rfl) [1, 2, 3, 0] rfl ?_
      refine k_aload_n (pc' := 39) h dX6_readsOne_38 rfl rfl 0 rfl ?_
      refine k_dup (pc' := 40) h dX6_readsOne_39 rfl rfl ?_
      refine k_get (v := .int (q2.2.1 0 17)) (pc' := 43) h dX6_readsOne_40 rfl bM_mo fl_X6_111 rfl ?_
      refine k_iconst (pc' := 44) h dX6_readsOne_43 rfl ci_1 ?_
      refine k_iadd (pc' := 45) h dX6_readsOne_44 rfl ?_
      refine k_put (pc' := 48) h dX6_readsOne_45 rfl bM_mo fp_X6_111 sf_mo_17 sj_mo_17 ?_
      obtain ⟨s6, hs6, hf⟩ := ls_s hf
      refine k_st hs6 ?_
      refine k_aload_n (pc' := 49) h dX6_readsOne_48 rfl rfl 0 rfl ?_
      refine k_get (v := .ref (al (oM G) 13)) (pc' := 52) h dX6_readsOne_49 rfl bM_mo fl_X6_51 rfl ?_
      refine k_iload_n (pc' := 53) h dX6_readsOne_52 rfl rfl 3 rfl ?_
      refine k_iload_n (pc' := 54) h dX6_readsOne_53 rfl rfl 2 rfl ?_
      have g7 := gd_1 hf
      replace hf := gd_2 hf
      refine k_iast (pc' := 55) h dX6_readsOne_54 rfl aM_13 g7 ?_
      obtain ⟨s8, hs8, hf⟩ := ls_s hf
      refine k_st hs8 ?_
      refine k_iconst (pc' := 56) h dX6_readsOne_55 rfl ci_1 ?_
      refine k_istore (lv' := [(0, .ref (al (oM G) 0)), (1, .int x0), (2, .int q2.1), (3, .int y5), (4, .int (1 : Int32))]) (pc' := 58) h dX6_readsOne_56 rfl (Nat.le_of_ble_eq_true rfl) [1, 2, 3, 4, 0] rfl ?_
      obtain ⟨q19, hq19, hf⟩ := bd_s hf
      refine w_X6_readsOne_58 h r x0 q2.1 y5  fuel (1 : Int32) s8 q19 hq19 (fun rs21 ers21 => ?_) (fun v20 ev20 => ?_)
      · subst ers21
        exact lf_i hf
      · subst ev20
        replace hf := sel_r hf
        refine k_aload_n (pc' := 127) h dX6_readsOne_126 rfl rfl 0 rfl ?_
        refine k_dup (pc' := 128) h dX6_readsOne_127 rfl rfl ?_
        refine k_get (v := .int (v20.2.1 0 18)) (pc' := 131) h dX6_readsOne_128 rfl bM_mo fl_X6_120 rfl ?_
        refine k_iconst (pc' := 132) h dX6_readsOne_131 rfl ci_1 ?_
        refine k_iadd (pc' := 133) h dX6_readsOne_132 rfl ?_
        refine k_put (pc' := 136) h dX6_readsOne_133 rfl bM_mo fp_X6_120 sf_mo_18 sj_mo_18 ?_
        obtain ⟨s22, hs22, hf⟩ := ls_s hf
        refine k_st hs22 ?_
        refine k_iconst (pc' := 137) h dX6_readsOne_136 rfl ci_1 ?_
        exact k_zret h r dX6_readsOne_137 (by decide) (lf_i hf)
    · replace hf := if_t c4 hf
      refine k_iconst (pc' := 29) h dX6_readsOne_28 rfl ci_0 ?_
      exact k_zret h r dX6_readsOne_29 (by decide) (lf_i hf)
noncomputable def l_X6_faultOf_10 (p1 : Int32)  (st : St) : Option ((St) ⊕ ((Int32 × St) ⊕ (St))) :=
  (gd (inb p1 4) (if (st.1 5 p1.toNatClampNeg) ≤ (st.1 0 17) then (some (.inr (.inr st))) else ((f_X6_byteAt p1 (st.1 0 17) st).bind (fun q5 => (if q5.1 = (32 : Int32) then (ls (sA q5.2 0 (upd (q5.2.1 0) 17 ((q5.2.1 0 17) + (1 : Int32)))) (fun s9 => (some (.inl s9)))) else ((f_X6_readsOne p1 q5.2).bind (fun q7 => (if q7.1 = 0 then (some (.inr (.inl (q7.2.1 0 17, q7.2)))) else (some (.inl q7.2))))))))))
set_option maxHeartbeats 4000000 in
theorem w_X6_faultOf_10 {G : GG} {X : Cx} (h : Ok X (oM G) cX6_faultOf RX6 2 (RM 2)) {P : Option Value → St → Prop} (r : Rt X (oM G) P (some .int)) (p1 : Int32)  (n : Nat)  (st : St) (q : (Int32 × St) ⊕ (St)) (hq : iter (fun v : St => l_X6_faultOf_10 p1  v) n (st) = some q) (kr : ∀ rs, q = .inl rs → P (some (.int rs.1)) rs.2) (kx : ∀ v : St, q = .inr v → Wk X (oM G) 2 v 63 [(0, .ref (al (oM G) 0)), (1, .int p1)] []) : Wk X (oM G) 2 st 10 [(0, .ref (al (oM G) 0)), (1, .int p1)] [] := by
  refine iter_rule (hd := (fun v : St => Wk X (oM G) 2 v 10 [(0, .ref (al (oM G) 0)), (1, .int p1)] [])) (ex := (Sum.elim (fun rs : Int32 × St => P (some (.int rs.1)) rs.2) (fun v : St => Wk X (oM G) 2 v 63 [(0, .ref (al (oM G) 0)), (1, .int p1)] []))) ?_ n (st) q hq (by cases q with
    | inl rs => exact kr rs rfl
    | inr v => exact kx v rfl)
  intro st oo hbv K
  show Wk X (oM G) 2 st 10 [(0, .ref (al (oM G) 0)), (1, .int p1)] []
  have hf : l_X6_faultOf_10 p1  st = some oo := hbv
  unfold l_X6_faultOf_10 at hf
  refine k_aload_n (pc' := 11) h dX6_faultOf_10 rfl rfl 0 rfl ?_
  refine k_get (v := .int (st.1 0 17)) (pc' := 14) h dX6_faultOf_11 rfl bM_mo fl_X6_111 rfl ?_
  refine k_aload_n (pc' := 15) h dX6_faultOf_14 rfl rfl 0 rfl ?_
  refine k_get (v := .ref (al (oM G) 5)) (pc' := 18) h dX6_faultOf_15 rfl bM_mo fl_X6_26 rfl ?_
  refine k_iload_n (pc' := 19) h dX6_faultOf_18 rfl rfl 1 rfl ?_
  have g3 := gd_1 hf
  replace hf := gd_2 hf
  refine k_iald (pc' := 20) h dX6_faultOf_19 rfl aM_5 g3 ?_
  refine k_icmp_ge (tgt := 63) (pc' := 23) h dX6_faultOf_20 rfl rfl (fun c4 => ?_) (fun c4 => ?_)
  · replace hf := if_t c4 hf
    refine k_sub (lv' := [(0, .ref (al (oM G) 0)), (1, .int p1)]) [0, 1] rfl ?_
    exact lp_o hf K
  · replace hf := if_f c4 hf
    refine k_aload_n (pc' := 24) h dX6_faultOf_23 rfl rfl 0 rfl ?_
    refine k_iload_n (pc' := 25) h dX6_faultOf_24 rfl rfl 1 rfl ?_
    refine k_aload_n (pc' := 26) h dX6_faultOf_25 rfl rfl 0 rfl ?_
    refine k_get (v := .int (st.1 0 17)) (pc' := 29) h dX6_faultOf_26 rfl bM_mo fl_X6_111 rfl ?_
    obtain ⟨q5, hq5, hf⟩ := bd_s hf
    refine k_callV (As := [.int p1, .int (st.1 0 17)]) (rest := []) (rv := some (.int q5.1)) (st' := q5.2) (stk' := [.int q5.1]) (pc' := 32) h dX6_faultOf_29 rfl ml_X6_114 wc_X6_byteAt wi_X6_byteAt ⟨Nat.le_of_ble_eq_true rfl, Nat.le_of_ble_eq_true rfl⟩ bM_mo rfl rfl rfl rfl (Nat.le_of_ble_eq_true rfl) (fun l => c_X6_byteAt l p1 (st.1 0 17) st  _ _ hq5) rfl ?_
    refine k_bipush (pc' := 34) h dX6_faultOf_32 rfl cb_32 ?_
    refine k_icmp_ne (tgt := 50) (pc' := 37) h dX6_faultOf_34 rfl rfl (fun c6 => ?_) (fun c6 => ?_)
    · replace hf := if_f c6 hf
      refine k_aload_n (pc' := 51) h dX6_faultOf_50 rfl rfl 0 rfl ?_
      refine k_iload_n (pc' := 52) h dX6_faultOf_51 rfl rfl 1 rfl ?_
      obtain ⟨q7, hq7, hf⟩ := bd_s hf
      refine k_callV (As := [.int p1]) (rest := []) (rv := some (.int q7.1)) (st' := q7.2) (stk' := [.int q7.1]) (pc' := 55) h dX6_faultOf_52 rfl ml_X6_129 wc_X6_readsOne wi_X6_readsOne ⟨Nat.le_of_ble_eq_true rfl, Nat.le_of_ble_eq_true rfl⟩ bM_mo rfl rfl rfl rfl (Nat.le_of_ble_eq_true rfl) (fun l => c_X6_readsOne l p1 q5.2  _ _ hq7) rfl ?_
      refine k_if_ne (tgt := 10) (pc' := 58) h dX6_faultOf_55 rfl rfl (fun c8 => ?_) (fun c8 => ?_)
      · replace hf := if_f c8 hf
        refine k_sub (lv' := [(0, .ref (al (oM G) 0)), (1, .int p1)]) [0, 1] rfl ?_
        exact lp_o hf K
      · replace hf := if_t c8 hf
        refine k_aload_n (pc' := 59) h dX6_faultOf_58 rfl rfl 0 rfl ?_
        refine k_get (v := .int (q7.2.1 0 17)) (pc' := 62) h dX6_faultOf_59 rfl bM_mo fl_X6_111 rfl ?_
        exact k_iret h r dX6_faultOf_62 (lp_o hf K)
    · replace hf := if_t c6 hf
      refine k_aload_n (pc' := 38) h dX6_faultOf_37 rfl rfl 0 rfl ?_
      refine k_dup (pc' := 39) h dX6_faultOf_38 rfl rfl ?_
      refine k_get (v := .int (q5.2.1 0 17)) (pc' := 42) h dX6_faultOf_39 rfl bM_mo fl_X6_111 rfl ?_
      refine k_iconst (pc' := 43) h dX6_faultOf_42 rfl ci_1 ?_
      refine k_iadd (pc' := 44) h dX6_faultOf_43 rfl ?_
      refine k_put (pc' := 47) h dX6_faultOf_44 rfl bM_mo fp_X6_111 sf_mo_17 sj_mo_17 ?_
      obtain ⟨s9, hs9, hf⟩ := ls_s hf
      refine k_st hs9 ?_
      refine k_goto (tgt := 10) h dX6_faultOf_47 rfl ?_
      refine k_sub (lv' := [(0, .ref (al (oM G) 0)), (1, .int p1)]) [0, 1] rfl ?_
      exact lp_o hf K
noncomputable def f_X6_faultOf (x0 : Int32) (st : St) : Option (Int32 × St) :=
  (ls (sA st 0 (upd (st.1 0) 17 (0 : Int32))) (fun s1 => (ls (sA s1 0 (upd (s1.1 0) 18 (0 : Int32))) (fun s2 => ((iter (fun v : St => l_X6_faultOf_10 x0  v) fuel s2).bind (fun q10 => Sum.elim (fun rs12 => some rs12) (fun v11 => (if (v11.1 0 18) = 0 then (gd (inb x0 4) (some (v11.1 5 x0.toNatClampNeg, v11))) else (some ((-9 : Int32), v11)))) q10))))))
set_option maxHeartbeats 4000000 in
theorem c_X6_faultOf {G : GG} (l : Launch) (x0 : Int32) (st : St)  (rr : Int32) (st' : St) (hf : f_X6_faultOf x0 st = some (rr, st')) : MM l yX6_faultOf cX6_faultOf 2 (some .int) 2 (oM G) [.ref (al (oM G) 0), .int x0] st (some (.int rr)) st' := by
  refine mk_MM (by decide +kernel) (Nat.le_of_ble_eq_true rfl) (fun X h r => ?_)
  refine k_sub (lv' := [(0, .ref (al (oM G) 0)), (1, .int x0)]) [0, 1] rfl ?_
  unfold f_X6_faultOf at hf
  refine k_aload_n (pc' := 1) h dX6_faultOf_0 rfl rfl 0 rfl ?_
  refine k_iconst (pc' := 2) h dX6_faultOf_1 rfl ci_0 ?_
  refine k_put (pc' := 5) h dX6_faultOf_2 rfl bM_mo fp_X6_111 sf_mo_17 sj_mo_17 ?_
  obtain ⟨s1, hs1, hf⟩ := ls_s hf
  refine k_st hs1 ?_
  refine k_aload_n (pc' := 6) h dX6_faultOf_5 rfl rfl 0 rfl ?_
  refine k_iconst (pc' := 7) h dX6_faultOf_6 rfl ci_0 ?_
  refine k_put (pc' := 10) h dX6_faultOf_7 rfl bM_mo fp_X6_120 sf_mo_18 sj_mo_18 ?_
  obtain ⟨s2, hs2, hf⟩ := ls_s hf
  refine k_st hs2 ?_
  obtain ⟨q10, hq10, hf⟩ := bd_s hf
  refine w_X6_faultOf_10 h r x0  fuel  s2 q10 hq10 (fun rs12 ers12 => ?_) (fun v11 ev11 => ?_)
  · subst ers12
    exact lf_i hf
  · subst ev11
    replace hf := sel_r hf
    refine k_aload_n (pc' := 64) h dX6_faultOf_63 rfl rfl 0 rfl ?_
    refine k_get (v := .int (v11.1 0 18)) (pc' := 67) h dX6_faultOf_64 rfl bM_mo fl_X6_120 rfl ?_
    refine k_if_ne (tgt := 79) (pc' := 70) h dX6_faultOf_67 rfl rfl (fun c13 => ?_) (fun c13 => ?_)
    · replace hf := if_f c13 hf
      refine k_bipush (pc' := 81) h dX6_faultOf_79 rfl cb_m9 ?_
      exact k_iret h r dX6_faultOf_81 (lf_i hf)
    · replace hf := if_t c13 hf
      refine k_aload_n (pc' := 71) h dX6_faultOf_70 rfl rfl 0 rfl ?_
      refine k_get (v := .ref (al (oM G) 5)) (pc' := 74) h dX6_faultOf_71 rfl bM_mo fl_X6_26 rfl ?_
      refine k_iload_n (pc' := 75) h dX6_faultOf_74 rfl rfl 1 rfl ?_
      have g14 := gd_1 hf
      replace hf := gd_2 hf
      refine k_iald (pc' := 76) h dX6_faultOf_75 rfl aM_5 g14 ?_
      refine k_goto (tgt := 81) h dX6_faultOf_76 rfl ?_
      exact k_iret h r dX6_faultOf_81 (lf_i hf)
noncomputable def f_X6_fault (x0 : Int32) (st : St) : Option (Int32 × St) :=
  ((f_X6_isText x0 st).bind (fun q1 => (if q1.1 = 0 then (some ((-1 : Int32), q1.2)) else (gd (inb x0 4) (if 0 ≤ (q1.2.1 5 x0.toNatClampNeg) then ((f_X6_faultOf x0 q1.2).bind (fun q5 => (some (q5.1, q5.2)))) else ((f_X6_meets (1 : Int32) q1.2).bind (fun q6 => (some (q6.1, q6.2)))))))))
set_option maxHeartbeats 4000000 in
theorem c_X6_fault {G : GG} (l : Launch) (x0 : Int32) (st : St)  (rr : Int32) (st' : St) (hf : f_X6_fault x0 st = some (rr, st')) : MM l yX6_fault cX6_fault 2 (some .int) 3 (oM G) [.ref (al (oM G) 0), .int x0] st (some (.int rr)) st' := by
  refine mk_MM (by decide +kernel) (Nat.le_of_ble_eq_true rfl) (fun X h r => ?_)
  refine k_sub (lv' := [(0, .ref (al (oM G) 0)), (1, .int x0)]) [0, 1] rfl ?_
  unfold f_X6_fault at hf
  refine k_iload_n (pc' := 1) h dX6_fault_0 rfl rfl 1 rfl ?_
  obtain ⟨q1, hq1, hf⟩ := bd_s hf
  refine k_callS (As := [.int x0]) (rest := []) (rv := some (.int q1.1)) (st' := q1.2) (stk' := [.int q1.1]) (pc' := 4) h dX6_fault_1 rfl ml_X6_108 wc_X6_isText ws_X6_isText ⟨Nat.le_of_ble_eq_true rfl, Nat.le_of_ble_eq_true rfl⟩ rfl rfl (Nat.le_of_ble_eq_true rfl) (fun l => c_X6_isText l x0 st  _ _ hq1) rfl ?_
  refine k_if_ne (tgt := 9) (pc' := 7) h dX6_fault_4 rfl rfl (fun c2 => ?_) (fun c2 => ?_)
  · replace hf := if_f c2 hf
    refine k_aload_n (pc' := 10) h dX6_fault_9 rfl rfl 0 rfl ?_
    refine k_get (v := .ref (al (oM G) 5)) (pc' := 13) h dX6_fault_10 rfl bM_mo fl_X6_26 rfl ?_
    refine k_iload_n (pc' := 14) h dX6_fault_13 rfl rfl 1 rfl ?_
    have g3 := gd_1 hf
    replace hf := gd_2 hf
    refine k_iald (pc' := 15) h dX6_fault_14 rfl aM_5 g3 ?_
    refine k_if_ge (tgt := 26) (pc' := 18) h dX6_fault_15 rfl rfl (fun c4 => ?_) (fun c4 => ?_)
    · replace hf := if_t c4 hf
      refine k_aload_n (pc' := 27) h dX6_fault_26 rfl rfl 0 rfl ?_
      refine k_iload_n (pc' := 28) h dX6_fault_27 rfl rfl 1 rfl ?_
      obtain ⟨q5, hq5, hf⟩ := bd_s hf
      refine k_callV (As := [.int x0]) (rest := []) (rv := some (.int q5.1)) (st' := q5.2) (stk' := [.int q5.1]) (pc' := 31) h dX6_fault_28 rfl ml_X6_132 wc_X6_faultOf wi_X6_faultOf ⟨Nat.le_of_ble_eq_true rfl, Nat.le_of_ble_eq_true rfl⟩ bM_mo rfl rfl rfl rfl (Nat.le_of_ble_eq_true rfl) (fun l => c_X6_faultOf l x0 q1.2  _ _ hq5) rfl ?_
      exact k_iret h r dX6_fault_31 (lf_i hf)
    · replace hf := if_f c4 hf
      refine k_aload_n (pc' := 19) h dX6_fault_18 rfl rfl 0 rfl ?_
      refine k_iconst (pc' := 20) h dX6_fault_19 rfl ci_1 ?_
      obtain ⟨q6, hq6, hf⟩ := bd_s hf
      refine k_callV (As := [.int (1 : Int32)]) (rest := []) (rv := some (.int q6.1)) (st' := q6.2) (stk' := [.int q6.1]) (pc' := 23) h dX6_fault_20 rfl ml_X6_97 wc_X6_meets wi_X6_meets ⟨Nat.le_of_ble_eq_true rfl, Nat.le_of_ble_eq_true rfl⟩ bM_mo rfl rfl rfl rfl (Nat.le_of_ble_eq_true rfl) (fun l => c_X6_meets l (1 : Int32) q1.2  _ _ hq6) rfl ?_
      refine k_goto (tgt := 31) h dX6_fault_23 rfl ?_
      exact k_iret h r dX6_fault_31 (lf_i hf)
  · replace hf := if_t c2 hf
    refine k_iconst (pc' := 8) h dX6_fault_7 rfl ci_m1 ?_
    exact k_iret h r dX6_fault_8 (lf_i hf)
noncomputable def l_X6_shop_47 (p1 : Int32) (v2 : Int32) (st : St) : Option ((Int32 × St) ⊕ (Int32 × St)) :=
  (if (st.1 0 10) ≤ v2 then (some (.inr (v2, st))) else (gd (inb ((6 : Int32) * v2) 36) (gd (inb v2 6) (ls (sA st 7 (upd (st.1 7) v2.toNatClampNeg (st.1 13 ((6 : Int32) * v2).toNatClampNeg))) (fun s11 => (gd (inb (((6 : Int32) * v2) + (1 : Int32)) 36) (gd (inb v2 6) (ls (sA s11 8 (upd (s11.1 8) v2.toNatClampNeg (s11.1 13 (((6 : Int32) * v2) + (1 : Int32)).toNatClampNeg))) (fun s14 => (gd (inb (((6 : Int32) * v2) + (2 : Int32)) 36) (gd (inb v2 6) (ls (sA s14 9 (upd (s14.1 9) v2.toNatClampNeg (s14.1 13 (((6 : Int32) * v2) + (2 : Int32)).toNatClampNeg))) (fun s17 => (gd (inb (((6 : Int32) * v2) + (3 : Int32)) 36) (gd (inb v2 6) (ls (sA s17 10 (upd (s17.1 10) v2.toNatClampNeg (s17.1 13 (((6 : Int32) * v2) + (3 : Int32)).toNatClampNeg))) (fun s20 => (gd (inb (((6 : Int32) * v2) + (4 : Int32)) 36) (gd (inb v2 6) (ls (sA s20 11 (upd (s20.1 11) v2.toNatClampNeg (s20.1 13 (((6 : Int32) * v2) + (4 : Int32)).toNatClampNeg))) (fun s23 => (gd (inb (((6 : Int32) * v2) + (5 : Int32)) 36) (gd (inb v2 6) (ls (sA s23 12 (upd (s23.1 12) v2.toNatClampNeg (s23.1 13 (((6 : Int32) * v2) + (5 : Int32)).toNatClampNeg))) (fun s26 => (some (.inl (v2 + (1 : Int32), s26))))))))))))))))))))))))))))
set_option maxHeartbeats 4000000 in
theorem w_X6_shop_47 {G : GG} {X : Cx} (h : Ok X (oM G) cX6_shop RX6 3 (RM 3))  (p1 : Int32)  (n : Nat) (v2 : Int32) (st : St) (q : Int32 × St) (hq : iter (fun v : Int32 × St => l_X6_shop_47 p1 v.1 v.2) n (v2, st) = some q) (kx : Wk X (oM G) 3 q.2 161 [(0, .ref (al (oM G) 0)), (1, .int p1), (2, .int q.1)] []) : Wk X (oM G) 3 st 47 [(0, .ref (al (oM G) 0)), (1, .int p1), (2, .int v2)] [] := by
  refine iter_rule (hd := (fun v : Int32 × St => Wk X (oM G) 3 v.2 47 [(0, .ref (al (oM G) 0)), (1, .int p1), (2, .int v.1)] [])) (ex := (fun v : Int32 × St => Wk X (oM G) 3 v.2 161 [(0, .ref (al (oM G) 0)), (1, .int p1), (2, .int v.1)] [])) ?_ n (v2, st) q hq kx
  rintro ⟨v2, st⟩ oo hbv K
  show Wk X (oM G) 3 st 47 [(0, .ref (al (oM G) 0)), (1, .int p1), (2, .int v2)] []
  have hf : l_X6_shop_47 p1 v2 st = some oo := hbv
  unfold l_X6_shop_47 at hf
  refine k_iload_n (pc' := 48) h dX6_shop_47 rfl rfl 2 rfl ?_
  refine k_aload_n (pc' := 49) h dX6_shop_48 rfl rfl 0 rfl ?_
  refine k_get (v := .int (st.1 0 10)) (pc' := 52) h dX6_shop_49 rfl bM_mo fl_X6_135 rfl ?_
  refine k_icmp_ge (tgt := 161) (pc' := 55) h dX6_shop_52 rfl rfl (fun c8 => ?_) (fun c8 => ?_)
  · replace hf := if_t c8 hf
    refine k_sub (lv' := [(0, .ref (al (oM G) 0)), (1, .int p1), (2, .int v2)]) [0, 1, 2] rfl ?_
    exact lp_o hf K
  · replace hf := if_f c8 hf
    refine k_aload_n (pc' := 56) h dX6_shop_55 rfl rfl 0 rfl ?_
    refine k_get (v := .ref (al (oM G) 7)) (pc' := 59) h dX6_shop_56 rfl bM_mo fl_X6_33 rfl ?_
    refine k_iload_n (pc' := 60) h dX6_shop_59 rfl rfl 2 rfl ?_
    refine k_aload_n (pc' := 61) h dX6_shop_60 rfl rfl 0 rfl ?_
    refine k_get (v := .ref (al (oM G) 13)) (pc' := 64) h dX6_shop_61 rfl bM_mo fl_X6_51 rfl ?_
    refine k_bipush (pc' := 66) h dX6_shop_64 rfl cb_6 ?_
    refine k_iload_n (pc' := 67) h dX6_shop_66 rfl rfl 2 rfl ?_
    refine k_imul (pc' := 68) h dX6_shop_67 rfl ?_
    have g9 := gd_1 hf
    replace hf := gd_2 hf
    refine k_iald (pc' := 69) h dX6_shop_68 rfl aM_13 g9 ?_
    have g10 := gd_1 hf
    replace hf := gd_2 hf
    refine k_iast (pc' := 70) h dX6_shop_69 rfl aM_7 g10 ?_
    obtain ⟨s11, hs11, hf⟩ := ls_s hf
    refine k_st hs11 ?_
    refine k_aload_n (pc' := 71) h dX6_shop_70 rfl rfl 0 rfl ?_
    refine k_get (v := .ref (al (oM G) 8)) (pc' := 74) h dX6_shop_71 rfl bM_mo fl_X6_36 rfl ?_
    refine k_iload_n (pc' := 75) h dX6_shop_74 rfl rfl 2 rfl ?_
    refine k_aload_n (pc' := 76) h dX6_shop_75 rfl rfl 0 rfl ?_
    refine k_get (v := .ref (al (oM G) 13)) (pc' := 79) h dX6_shop_76 rfl bM_mo fl_X6_51 rfl ?_
    refine k_bipush (pc' := 81) h dX6_shop_79 rfl cb_6 ?_
    refine k_iload_n (pc' := 82) h dX6_shop_81 rfl rfl 2 rfl ?_
    refine k_imul (pc' := 83) h dX6_shop_82 rfl ?_
    refine k_iconst (pc' := 84) h dX6_shop_83 rfl ci_1 ?_
    refine k_iadd (pc' := 85) h dX6_shop_84 rfl ?_
    have g12 := gd_1 hf
    replace hf := gd_2 hf
    refine k_iald (pc' := 86) h dX6_shop_85 rfl aM_13 g12 ?_
    have g13 := gd_1 hf
    replace hf := gd_2 hf
    refine k_iast (pc' := 87) h dX6_shop_86 rfl aM_8 g13 ?_
    obtain ⟨s14, hs14, hf⟩ := ls_s hf
    refine k_st hs14 ?_
    refine k_aload_n (pc' := 88) h dX6_shop_87 rfl rfl 0 rfl ?_
    refine k_get (v := .ref (al (oM G) 9)) (pc' := 91) h dX6_shop_88 rfl bM_mo fl_X6_39 rfl ?_
    refine k_iload_n (pc' := 92) h dX6_shop_91 rfl rfl 2 rfl ?_
    refine k_aload_n (pc' := 93) h dX6_shop_92 rfl rfl 0 rfl ?_
    refine k_get (v := .ref (al (oM G) 13)) (pc' := 96) h dX6_shop_93 rfl bM_mo fl_X6_51 rfl ?_
    refine k_bipush (pc' := 98) h dX6_shop_96 rfl cb_6 ?_
    refine k_iload_n (pc' := 99) h dX6_shop_98 rfl rfl 2 rfl ?_
    refine k_imul (pc' := 100) h dX6_shop_99 rfl ?_
    refine k_iconst (pc' := 101) h dX6_shop_100 rfl ci_2 ?_
    refine k_iadd (pc' := 102) h dX6_shop_101 rfl ?_
    have g15 := gd_1 hf
    replace hf := gd_2 hf
    refine k_iald (pc' := 103) h dX6_shop_102 rfl aM_13 g15 ?_
    have g16 := gd_1 hf
    replace hf := gd_2 hf
    refine k_iast (pc' := 104) h dX6_shop_103 rfl aM_9 g16 ?_
    obtain ⟨s17, hs17, hf⟩ := ls_s hf
    refine k_st hs17 ?_
    refine k_aload_n (pc' := 105) h dX6_shop_104 rfl rfl 0 rfl ?_
    refine k_get (v := .ref (al (oM G) 10)) (pc' := 108) h dX6_shop_105 rfl bM_mo fl_X6_42 rfl ?_
    refine k_iload_n (pc' := 109) h dX6_shop_108 rfl rfl 2 rfl ?_
    refine k_aload_n (pc' := 110) h dX6_shop_109 rfl rfl 0 rfl ?_
    refine k_get (v := .ref (al (oM G) 13)) (pc' := 113) h dX6_shop_110 rfl bM_mo fl_X6_51 rfl ?_
    refine k_bipush (pc' := 115) h dX6_shop_113 rfl cb_6 ?_
    refine k_iload_n (pc' := 116) h dX6_shop_115 rfl rfl 2 rfl ?_
    refine k_imul (pc' := 117) h dX6_shop_116 rfl ?_
    refine k_iconst (pc' := 118) h dX6_shop_117 rfl ci_3 ?_
    refine k_iadd (pc' := 119) h dX6_shop_118 rfl ?_
    have g18 := gd_1 hf
    replace hf := gd_2 hf
    refine k_iald (pc' := 120) h dX6_shop_119 rfl aM_13 g18 ?_
    have g19 := gd_1 hf
    replace hf := gd_2 hf
    refine k_iast (pc' := 121) h dX6_shop_120 rfl aM_10 g19 ?_
    obtain ⟨s20, hs20, hf⟩ := ls_s hf
    refine k_st hs20 ?_
    refine k_aload_n (pc' := 122) h dX6_shop_121 rfl rfl 0 rfl ?_
    refine k_get (v := .ref (al (oM G) 11)) (pc' := 125) h dX6_shop_122 rfl bM_mo fl_X6_45 rfl ?_
    refine k_iload_n (pc' := 126) h dX6_shop_125 rfl rfl 2 rfl ?_
    refine k_aload_n (pc' := 127) h dX6_shop_126 rfl rfl 0 rfl ?_
    refine k_get (v := .ref (al (oM G) 13)) (pc' := 130) h dX6_shop_127 rfl bM_mo fl_X6_51 rfl ?_
    refine k_bipush (pc' := 132) h dX6_shop_130 rfl cb_6 ?_
    refine k_iload_n (pc' := 133) h dX6_shop_132 rfl rfl 2 rfl ?_
    refine k_imul (pc' := 134) h dX6_shop_133 rfl ?_
    refine k_iconst (pc' := 135) h dX6_shop_134 rfl ci_4 ?_
    refine k_iadd (pc' := 136) h dX6_shop_135 rfl ?_
    have g21 := gd_1 hf
    replace hf := gd_2 hf
    refine k_iald (pc' := 137) h dX6_shop_136 rfl aM_13 g21 ?_
    have g22 := gd_1 hf
    replace hf := gd_2 hf
    refine k_iast (pc' := 138) h dX6_shop_137 rfl aM_11 g22 ?_
    obtain ⟨s23, hs23, hf⟩ := ls_s hf
    refine k_st hs23 ?_
    refine k_aload_n (pc' := 139) h dX6_shop_138 rfl rfl 0 rfl ?_
    refine k_get (v := .ref (al (oM G) 12)) (pc' := 142) h dX6_shop_139 rfl bM_mo fl_X6_48 rfl ?_
    refine k_iload_n (pc' := 143) h dX6_shop_142 rfl rfl 2 rfl ?_
    refine k_aload_n (pc' := 144) h dX6_shop_143 rfl rfl 0 rfl ?_
    refine k_get (v := .ref (al (oM G) 13)) (pc' := 147) h dX6_shop_144 rfl bM_mo fl_X6_51 rfl ?_
    refine k_bipush (pc' := 149) h dX6_shop_147 rfl cb_6 ?_
    refine k_iload_n (pc' := 150) h dX6_shop_149 rfl rfl 2 rfl ?_
    refine k_imul (pc' := 151) h dX6_shop_150 rfl ?_
    refine k_iconst (pc' := 152) h dX6_shop_151 rfl ci_5 ?_
    refine k_iadd (pc' := 153) h dX6_shop_152 rfl ?_
    have g24 := gd_1 hf
    replace hf := gd_2 hf
    refine k_iald (pc' := 154) h dX6_shop_153 rfl aM_13 g24 ?_
    have g25 := gd_1 hf
    replace hf := gd_2 hf
    refine k_iast (pc' := 155) h dX6_shop_154 rfl aM_12 g25 ?_
    obtain ⟨s26, hs26, hf⟩ := ls_s hf
    refine k_st hs26 ?_
    refine k_iinc (lv' := [(0, .ref (al (oM G) 0)), (1, .int p1), (2, .int (v2 + (1 : Int32)))]) (pc' := 158) h dX6_shop_155 rfl 2 rfl (congrArg (fun z => v2 + z) ci_1) (Nat.le_of_ble_eq_true rfl) [1, 2, 0] rfl ?_
    refine k_goto (tgt := 47) h dX6_shop_158 rfl ?_
    refine k_sub (lv' := [(0, .ref (al (oM G) 0)), (1, .int p1), (2, .int (v2 + (1 : Int32)))]) [0, 1, 2] rfl ?_
    exact lp_o hf K
noncomputable def l_X6_shop_163 (p1 : Int32) (v2 : Int32) (st : St) : Option ((Int32 × St) ⊕ (Int32 × St)) :=
  (if (14 : Int32) ≤ v2 then (some (.inr (v2, st))) else (gd (inb v2 14) (ls (sA st 14 (upd (st.1 14) v2.toNatClampNeg (0 : Int32))) (fun s30 => (some (.inl (v2 + (1 : Int32), s30)))))))
set_option maxHeartbeats 4000000 in
theorem w_X6_shop_163 {G : GG} {X : Cx} (h : Ok X (oM G) cX6_shop RX6 3 (RM 3))  (p1 : Int32)  (n : Nat) (v2 : Int32) (st : St) (q : Int32 × St) (hq : iter (fun v : Int32 × St => l_X6_shop_163 p1 v.1 v.2) n (v2, st) = some q) (kx : Wk X (oM G) 3 q.2 182 [(0, .ref (al (oM G) 0)), (1, .int p1), (2, .int q.1)] []) : Wk X (oM G) 3 st 163 [(0, .ref (al (oM G) 0)), (1, .int p1), (2, .int v2)] [] := by
  refine iter_rule (hd := (fun v : Int32 × St => Wk X (oM G) 3 v.2 163 [(0, .ref (al (oM G) 0)), (1, .int p1), (2, .int v.1)] [])) (ex := (fun v : Int32 × St => Wk X (oM G) 3 v.2 182 [(0, .ref (al (oM G) 0)), (1, .int p1), (2, .int v.1)] [])) ?_ n (v2, st) q hq kx
  rintro ⟨v2, st⟩ oo hbv K
  show Wk X (oM G) 3 st 163 [(0, .ref (al (oM G) 0)), (1, .int p1), (2, .int v2)] []
  have hf : l_X6_shop_163 p1 v2 st = some oo := hbv
  unfold l_X6_shop_163 at hf
  refine k_iload_n (pc' := 164) h dX6_shop_163 rfl rfl 2 rfl ?_
  refine k_bipush (pc' := 166) h dX6_shop_164 rfl cb_14 ?_
  refine k_icmp_ge (tgt := 182) (pc' := 169) h dX6_shop_166 rfl rfl (fun c28 => ?_) (fun c28 => ?_)
  · replace hf := if_t c28 hf
    refine k_sub (lv' := [(0, .ref (al (oM G) 0)), (1, .int p1), (2, .int v2)]) [0, 1, 2] rfl ?_
    exact lp_o hf K
  · replace hf := if_f c28 hf
    refine k_aload_n (pc' := 170) h dX6_shop_169 rfl rfl 0 rfl ?_
    refine k_get (v := .ref (al (oM G) 14)) (pc' := 173) h dX6_shop_170 rfl bM_mo fl_X6_54 rfl ?_
    refine k_iload_n (pc' := 174) h dX6_shop_173 rfl rfl 2 rfl ?_
    refine k_iconst (pc' := 175) h dX6_shop_174 rfl ci_0 ?_
    have g29 := gd_1 hf
    replace hf := gd_2 hf
    refine k_iast (pc' := 176) h dX6_shop_175 rfl aM_14 g29 ?_
    obtain ⟨s30, hs30, hf⟩ := ls_s hf
    refine k_st hs30 ?_
    refine k_iinc (lv' := [(0, .ref (al (oM G) 0)), (1, .int p1), (2, .int (v2 + (1 : Int32)))]) (pc' := 179) h dX6_shop_176 rfl 2 rfl (congrArg (fun z => v2 + z) ci_1) (Nat.le_of_ble_eq_true rfl) [1, 2, 0] rfl ?_
    refine k_goto (tgt := 163) h dX6_shop_179 rfl ?_
    refine k_sub (lv' := [(0, .ref (al (oM G) 0)), (1, .int p1), (2, .int (v2 + (1 : Int32)))]) [0, 1, 2] rfl ?_
    exact lp_o hf K
noncomputable def l_X6_shop_189 (p1 : Int32) (v2 : Int32) (st : St) : Option ((Int32 × St) ⊕ (Int32 × St)) :=
  (if (3 : Int32) ≤ v2 then (some (.inr (v2, st))) else (gd (inb v2 3) (ls (sA st 16 (upd (st.1 16) v2.toNatClampNeg (0 : Int32))) (fun s35 => (some (.inl (v2 + (1 : Int32), s35)))))))
set_option maxHeartbeats 4000000 in
theorem w_X6_shop_189 {G : GG} {X : Cx} (h : Ok X (oM G) cX6_shop RX6 3 (RM 3))  (p1 : Int32)  (n : Nat) (v2 : Int32) (st : St) (q : Int32 × St) (hq : iter (fun v : Int32 × St => l_X6_shop_189 p1 v.1 v.2) n (v2, st) = some q) (kx : Wk X (oM G) 3 q.2 207 [(0, .ref (al (oM G) 0)), (1, .int p1), (2, .int q.1)] []) : Wk X (oM G) 3 st 189 [(0, .ref (al (oM G) 0)), (1, .int p1), (2, .int v2)] [] := by
  refine iter_rule (hd := (fun v : Int32 × St => Wk X (oM G) 3 v.2 189 [(0, .ref (al (oM G) 0)), (1, .int p1), (2, .int v.1)] [])) (ex := (fun v : Int32 × St => Wk X (oM G) 3 v.2 207 [(0, .ref (al (oM G) 0)), (1, .int p1), (2, .int v.1)] [])) ?_ n (v2, st) q hq kx
  rintro ⟨v2, st⟩ oo hbv K
  show Wk X (oM G) 3 st 189 [(0, .ref (al (oM G) 0)), (1, .int p1), (2, .int v2)] []
  have hf : l_X6_shop_189 p1 v2 st = some oo := hbv
  unfold l_X6_shop_189 at hf
  refine k_iload_n (pc' := 190) h dX6_shop_189 rfl rfl 2 rfl ?_
  refine k_iconst (pc' := 191) h dX6_shop_190 rfl ci_3 ?_
  refine k_icmp_ge (tgt := 207) (pc' := 194) h dX6_shop_191 rfl rfl (fun c33 => ?_) (fun c33 => ?_)
  · replace hf := if_t c33 hf
    refine k_sub (lv' := [(0, .ref (al (oM G) 0)), (1, .int p1), (2, .int v2)]) [0, 1, 2] rfl ?_
    exact lp_o hf K
  · replace hf := if_f c33 hf
    refine k_aload_n (pc' := 195) h dX6_shop_194 rfl rfl 0 rfl ?_
    refine k_get (v := .ref (al (oM G) 16)) (pc' := 198) h dX6_shop_195 rfl bM_mo fl_X6_60 rfl ?_
    refine k_iload_n (pc' := 199) h dX6_shop_198 rfl rfl 2 rfl ?_
    refine k_iconst (pc' := 200) h dX6_shop_199 rfl ci_0 ?_
    have g34 := gd_1 hf
    replace hf := gd_2 hf
    refine k_zast (pc' := 201) h dX6_shop_200 rfl aM_16 g34 (by decide +kernel) ?_
    obtain ⟨s35, hs35, hf⟩ := ls_s hf
    refine k_st hs35 ?_
    refine k_iinc (lv' := [(0, .ref (al (oM G) 0)), (1, .int p1), (2, .int (v2 + (1 : Int32)))]) (pc' := 204) h dX6_shop_201 rfl 2 rfl (congrArg (fun z => v2 + z) ci_1) (Nat.le_of_ble_eq_true rfl) [1, 2, 0] rfl ?_
    refine k_goto (tgt := 189) h dX6_shop_204 rfl ?_
    refine k_sub (lv' := [(0, .ref (al (oM G) 0)), (1, .int p1), (2, .int (v2 + (1 : Int32)))]) [0, 1, 2] rfl ?_
    exact lp_o hf K
noncomputable def f_X6_shop (x0 : Int32) (st : St) : Option (Int32 × St) :=
  ((f_X6_isText x0 st).bind (fun q1 => (if q1.1 = 0 then (some ((-1 : Int32), q1.2)) else (gd (inb x0 4) (if 0 ≤ (q1.2.1 5 x0.toNatClampNeg) then ((f_X6_faultOf x0 q1.2).bind (fun q5 => (if q5.1 = (-9 : Int32) then (ls (sA q5.2 0 (upd (q5.2.1 0) 10 (q5.2.1 0 18))) (fun s7 => ((iter (fun v : Int32 × St => l_X6_shop_47 x0 v.1 v.2) fuel ((0 : Int32), s7)).bind (fun q27 => ((iter (fun v : Int32 × St => l_X6_shop_163 x0 v.1 v.2) fuel ((0 : Int32), q27.2)).bind (fun q31 => (ls (sA q31.2 0 (upd (q31.2.1 0) 21 (0 : Int32))) (fun s32 => ((iter (fun v : Int32 × St => l_X6_shop_189 x0 v.1 v.2) fuel ((0 : Int32), s32)).bind (fun q36 => (some (q36.2.1 0 10, q36.2)))))))))))) else (some ((-4 : Int32), q5.2))))) else ((f_X6_meets (1 : Int32) q1.2).bind (fun q37 => (some (q37.1, q37.2)))))))))
set_option maxHeartbeats 4000000 in
theorem c_X6_shop {G : GG} (l : Launch) (x0 : Int32) (st : St)  (rr : Int32) (st' : St) (hf : f_X6_shop x0 st = some (rr, st')) : MM l yX6_shop cX6_shop 3 (some .int) 3 (oM G) [.ref (al (oM G) 0), .int x0] st (some (.int rr)) st' := by
  refine mk_MM (by decide +kernel) (Nat.le_of_ble_eq_true rfl) (fun X h r => ?_)
  refine k_sub (lv' := [(0, .ref (al (oM G) 0)), (1, .int x0)]) [0, 1] rfl ?_
  unfold f_X6_shop at hf
  refine k_iload_n (pc' := 1) h dX6_shop_0 rfl rfl 1 rfl ?_
  obtain ⟨q1, hq1, hf⟩ := bd_s hf
  refine k_callS (As := [.int x0]) (rest := []) (rv := some (.int q1.1)) (st' := q1.2) (stk' := [.int q1.1]) (pc' := 4) h dX6_shop_1 rfl ml_X6_108 wc_X6_isText ws_X6_isText ⟨Nat.le_of_ble_eq_true rfl, Nat.le_of_ble_eq_true rfl⟩ rfl rfl (Nat.le_of_ble_eq_true rfl) (fun l => c_X6_isText l x0 st  _ _ hq1) rfl ?_
  refine k_if_ne (tgt := 9) (pc' := 7) h dX6_shop_4 rfl rfl (fun c2 => ?_) (fun c2 => ?_)
  · replace hf := if_f c2 hf
    refine k_aload_n (pc' := 10) h dX6_shop_9 rfl rfl 0 rfl ?_
    refine k_get (v := .ref (al (oM G) 5)) (pc' := 13) h dX6_shop_10 rfl bM_mo fl_X6_26 rfl ?_
    refine k_iload_n (pc' := 14) h dX6_shop_13 rfl rfl 1 rfl ?_
    have g3 := gd_1 hf
    replace hf := gd_2 hf
    refine k_iald (pc' := 15) h dX6_shop_14 rfl aM_5 g3 ?_
    refine k_if_ge (tgt := 24) (pc' := 18) h dX6_shop_15 rfl rfl (fun c4 => ?_) (fun c4 => ?_)
    · replace hf := if_t c4 hf
      refine k_aload_n (pc' := 25) h dX6_shop_24 rfl rfl 0 rfl ?_
      refine k_iload_n (pc' := 26) h dX6_shop_25 rfl rfl 1 rfl ?_
      obtain ⟨q5, hq5, hf⟩ := bd_s hf
      refine k_callV (As := [.int x0]) (rest := []) (rv := some (.int q5.1)) (st' := q5.2) (stk' := [.int q5.1]) (pc' := 29) h dX6_shop_26 rfl ml_X6_132 wc_X6_faultOf wi_X6_faultOf ⟨Nat.le_of_ble_eq_true rfl, Nat.le_of_ble_eq_true rfl⟩ bM_mo rfl rfl rfl rfl (Nat.le_of_ble_eq_true rfl) (fun l => c_X6_faultOf l x0 q1.2  _ _ hq5) rfl ?_
      refine k_bipush (pc' := 31) h dX6_shop_29 rfl cb_m9 ?_
      refine k_icmp_eq (tgt := 37) (pc' := 34) h dX6_shop_31 rfl rfl (fun c6 => ?_) (fun c6 => ?_)
      · replace hf := if_t c6 hf
        refine k_aload_n (pc' := 38) h dX6_shop_37 rfl rfl 0 rfl ?_
        refine k_aload_n (pc' := 39) h dX6_shop_38 rfl rfl 0 rfl ?_
        refine k_get (v := .int (q5.2.1 0 18)) (pc' := 42) h dX6_shop_39 rfl bM_mo fl_X6_120 rfl ?_
        refine k_put (pc' := 45) h dX6_shop_42 rfl bM_mo fp_X6_135 sf_mo_10 sj_mo_10 ?_
        obtain ⟨s7, hs7, hf⟩ := ls_s hf
        refine k_st hs7 ?_
        refine k_iconst (pc' := 46) h dX6_shop_45 rfl ci_0 ?_
        refine k_istore_n (lv' := [(0, .ref (al (oM G) 0)), (1, .int x0), (2, .int (0 : Int32))]) (pc' := 47) h dX6_shop_46 rfl rfl (Nat.le_of_ble_eq_true rfl) [1, 2, 0] rfl ?_
        obtain ⟨q27, hq27, hf⟩ := bd_s hf
        refine w_X6_shop_47 h x0  fuel (0 : Int32) s7 q27 hq27 ?_
        refine k_iconst (pc' := 162) h dX6_shop_161 rfl ci_0 ?_
        refine k_istore_n (lv' := [(0, .ref (al (oM G) 0)), (1, .int x0), (2, .int (0 : Int32))]) (pc' := 163) h dX6_shop_162 rfl rfl (Nat.le_of_ble_eq_true rfl) [1, 2, 0] rfl ?_
        obtain ⟨q31, hq31, hf⟩ := bd_s hf
        refine w_X6_shop_163 h x0  fuel (0 : Int32) q27.2 q31 hq31 ?_
        refine k_aload_n (pc' := 183) h dX6_shop_182 rfl rfl 0 rfl ?_
        refine k_iconst (pc' := 184) h dX6_shop_183 rfl ci_0 ?_
        refine k_put (pc' := 187) h dX6_shop_184 rfl bM_mo fp_X6_138 sf_mo_21 sj_mo_21 ?_
        obtain ⟨s32, hs32, hf⟩ := ls_s hf
        refine k_st hs32 ?_
        refine k_iconst (pc' := 188) h dX6_shop_187 rfl ci_0 ?_
        refine k_istore_n (lv' := [(0, .ref (al (oM G) 0)), (1, .int x0), (2, .int (0 : Int32))]) (pc' := 189) h dX6_shop_188 rfl rfl (Nat.le_of_ble_eq_true rfl) [1, 2, 0] rfl ?_
        obtain ⟨q36, hq36, hf⟩ := bd_s hf
        refine w_X6_shop_189 h x0  fuel (0 : Int32) s32 q36 hq36 ?_
        refine k_aload_n (pc' := 208) h dX6_shop_207 rfl rfl 0 rfl ?_
        refine k_get (v := .int (q36.2.1 0 10)) (pc' := 211) h dX6_shop_208 rfl bM_mo fl_X6_135 rfl ?_
        exact k_iret h r dX6_shop_211 (lf_i hf)
      · replace hf := if_f c6 hf
        refine k_bipush (pc' := 36) h dX6_shop_34 rfl cb_m4 ?_
        exact k_iret h r dX6_shop_36 (lf_i hf)
    · replace hf := if_f c4 hf
      refine k_aload_n (pc' := 19) h dX6_shop_18 rfl rfl 0 rfl ?_
      refine k_iconst (pc' := 20) h dX6_shop_19 rfl ci_1 ?_
      obtain ⟨q37, hq37, hf⟩ := bd_s hf
      refine k_callV (As := [.int (1 : Int32)]) (rest := []) (rv := some (.int q37.1)) (st' := q37.2) (stk' := [.int q37.1]) (pc' := 23) h dX6_shop_20 rfl ml_X6_97 wc_X6_meets wi_X6_meets ⟨Nat.le_of_ble_eq_true rfl, Nat.le_of_ble_eq_true rfl⟩ bM_mo rfl rfl rfl rfl (Nat.le_of_ble_eq_true rfl) (fun l => c_X6_meets l (1 : Int32) q1.2  _ _ hq37) rfl ?_
      exact k_iret h r dX6_shop_23 (lf_i hf)
  · replace hf := if_t c2 hf
    refine k_iconst (pc' := 8) h dX6_shop_7 rfl ci_m1 ?_
    exact k_iret h r dX6_shop_8 (lf_i hf)
noncomputable def f_X6_isRegular (x0 : Int32) (st : St) : Option (Int32 × St) :=
  ((f_X6_in x0 (0 : Int32) ((st.1 0 10) - (1 : Int32)) st).bind (fun q1 => (gd (isB q1.1) (some (q1.1, q1.2)))))
set_option maxHeartbeats 4000000 in
theorem c_X6_isRegular {G : GG} (l : Launch) (x0 : Int32) (st : St)  (rr : Int32) (st' : St) (hf : f_X6_isRegular x0 st = some (rr, st')) : MM l yX6_isRegular cX6_isRegular 2 (some .boolean) 1 (oM G) [.ref (al (oM G) 0), .int x0] st (some (.int rr)) st' := by
  refine mk_MM (by decide +kernel) (Nat.le_of_ble_eq_true rfl) (fun X h r => ?_)
  refine k_sub (lv' := [(0, .ref (al (oM G) 0)), (1, .int x0)]) [0, 1] rfl ?_
  unfold f_X6_isRegular at hf
  refine k_iload_n (pc' := 1) h dX6_isRegular_0 rfl rfl 1 rfl ?_
  refine k_iconst (pc' := 2) h dX6_isRegular_1 rfl ci_0 ?_
  refine k_aload_n (pc' := 3) h dX6_isRegular_2 rfl rfl 0 rfl ?_
  refine k_get (v := .int (st.1 0 10)) (pc' := 6) h dX6_isRegular_3 rfl bM_mo fl_X6_135 rfl ?_
  refine k_iconst (pc' := 7) h dX6_isRegular_6 rfl ci_1 ?_
  refine k_isub (pc' := 8) h dX6_isRegular_7 rfl ?_
  obtain ⟨q1, hq1, hf⟩ := bd_s hf
  refine k_callS (As := [.int x0, .int (0 : Int32), .int ((st.1 0 10) - (1 : Int32))]) (rest := []) (rv := some (.int q1.1)) (st' := q1.2) (stk' := [.int q1.1]) (pc' := 11) h dX6_isRegular_8 rfl ml_X6_83 wc_X6_in ws_X6_in ⟨Nat.le_of_ble_eq_true rfl, Nat.le_of_ble_eq_true rfl⟩ rfl rfl (Nat.le_of_ble_eq_true rfl) (fun l => c_X6_in l x0 (0 : Int32) ((st.1 0 10) - (1 : Int32)) st  _ _ hq1) rfl ?_
  have g2 := isB_or (gd_1 hf)
  replace hf := gd_2 hf
  exact k_zret h r dX6_isRegular_11 g2 (lf_i hf)
noncomputable def f_X6_isThing (x0 : Int32) (st : St) : Option (Int32 × St) :=
  ((f_X6_in x0 (0 : Int32) (5 : Int32) st).bind (fun q1 => (gd (isB q1.1) (some (q1.1, q1.2)))))
set_option maxHeartbeats 4000000 in
theorem c_X6_isThing {G : GG} (l : Launch) (x0 : Int32) (st : St)  (rr : Int32) (st' : St) (hf : f_X6_isThing x0 st = some (rr, st')) : MM l yX6_isThing cX6_isThing 1 (some .boolean) 1 (oM G) [.int x0] st (some (.int rr)) st' := by
  refine mk_MM (by decide +kernel) (Nat.le_of_ble_eq_true rfl) (fun X h r => ?_)
  refine k_sub (lv' := [(0, .int x0)]) [0] rfl ?_
  unfold f_X6_isThing at hf
  refine k_iload_n (pc' := 1) h dX6_isThing_0 rfl rfl 0 rfl ?_
  refine k_iconst (pc' := 2) h dX6_isThing_1 rfl ci_0 ?_
  refine k_iconst (pc' := 3) h dX6_isThing_2 rfl ci_5 ?_
  obtain ⟨q1, hq1, hf⟩ := bd_s hf
  refine k_callS (As := [.int x0, .int (0 : Int32), .int (5 : Int32)]) (rest := []) (rv := some (.int q1.1)) (st' := q1.2) (stk' := [.int q1.1]) (pc' := 6) h dX6_isThing_3 rfl ml_X6_83 wc_X6_in ws_X6_in ⟨Nat.le_of_ble_eq_true rfl, Nat.le_of_ble_eq_true rfl⟩ rfl rfl (Nat.le_of_ble_eq_true rfl) (fun l => c_X6_in l x0 (0 : Int32) (5 : Int32) st  _ _ hq1) rfl ?_
  have g2 := isB_or (gd_1 hf)
  replace hf := gd_2 hf
  exact k_zret h r dX6_isThing_6 g2 (lf_i hf)
noncomputable def f_X6_isLaid (x0 : Int32) (st : St) : Option (Int32 × St) :=
  (if x0 = (-9 : Int32) then (some ((1 : Int32), st)) else ((f_X6_isThing x0 st).bind (fun q2 => (if q2.1 = 0 then (some ((0 : Int32), q2.2)) else (some ((1 : Int32), q2.2))))))
set_option maxHeartbeats 4000000 in
theorem c_X6_isLaid {G : GG} (l : Launch) (x0 : Int32) (st : St)  (rr : Int32) (st' : St) (hf : f_X6_isLaid x0 st = some (rr, st')) : MM l yX6_isLaid cX6_isLaid 1 (some .boolean) 2 (oM G) [.int x0] st (some (.int rr)) st' := by
  refine mk_MM (by decide +kernel) (Nat.le_of_ble_eq_true rfl) (fun X h r => ?_)
  refine k_sub (lv' := [(0, .int x0)]) [0] rfl ?_
  unfold f_X6_isLaid at hf
  refine k_iload_n (pc' := 1) h dX6_isLaid_0 rfl rfl 0 rfl ?_
  refine k_bipush (pc' := 3) h dX6_isLaid_1 rfl cb_m9 ?_
  refine k_icmp_eq (tgt := 13) (pc' := 6) h dX6_isLaid_3 rfl rfl (fun c1 => ?_) (fun c1 => ?_)
  · replace hf := if_t c1 hf
    refine k_iconst (pc' := 14) h dX6_isLaid_13 rfl ci_1 ?_
    refine k_goto (tgt := 18) h dX6_isLaid_14 rfl ?_
    exact k_zret h r dX6_isLaid_18 (by decide) (lf_i hf)
  · replace hf := if_f c1 hf
    refine k_iload_n (pc' := 7) h dX6_isLaid_6 rfl rfl 0 rfl ?_
    obtain ⟨q2, hq2, hf⟩ := bd_s hf
    refine k_callS (As := [.int x0]) (rest := []) (rv := some (.int q2.1)) (st' := q2.2) (stk' := [.int q2.1]) (pc' := 10) h dX6_isLaid_7 rfl ml_X6_141 wc_X6_isThing ws_X6_isThing ⟨Nat.le_of_ble_eq_true rfl, Nat.le_of_ble_eq_true rfl⟩ rfl rfl (Nat.le_of_ble_eq_true rfl) (fun l => c_X6_isThing l x0 st  _ _ hq2) rfl ?_
    refine k_if_eq (tgt := 17) (pc' := 13) h dX6_isLaid_10 rfl rfl (fun c3 => ?_) (fun c3 => ?_)
    · replace hf := if_t c3 hf
      refine k_iconst (pc' := 18) h dX6_isLaid_17 rfl ci_0 ?_
      exact k_zret h r dX6_isLaid_18 (by decide) (lf_i hf)
    · replace hf := if_f c3 hf
      refine k_iconst (pc' := 14) h dX6_isLaid_13 rfl ci_1 ?_
      refine k_goto (tgt := 18) h dX6_isLaid_14 rfl ?_
      exact k_zret h r dX6_isLaid_18 (by decide) (lf_i hf)
noncomputable def f_X6_isOther (x0 : Int32) (x1 : Int32) (st : St) : Option (Int32 × St) :=
  (if x0 = (2 : Int32) then (if x1 ≤ (2 : Int32) then (some ((0 : Int32), st)) else (some ((1 : Int32), st))) else (if x0 = (3 : Int32) then (some ((0 : Int32), st)) else (if x0 = (4 : Int32) then (gd (nz (2 : Int32)) (if (x1 - x1 / (2 : Int32) * (2 : Int32)) = (1 : Int32) then (some ((1 : Int32), st)) else (some ((0 : Int32), st)))) else (if x0 = (5 : Int32) then (gd (nz (5 : Int32)) (if (x1 - x1 / (5 : Int32) * (5 : Int32)) = (4 : Int32) then (if (2 : Int32) < x1 then (some ((0 : Int32), st)) else (some ((1 : Int32), st))) else (if x1 ≤ (2 : Int32) then (some ((0 : Int32), st)) else (some ((1 : Int32), st))))) else (some ((0 : Int32), st))))))
set_option maxHeartbeats 4000000 in
theorem c_X6_isOther {G : GG} (l : Launch) (x0 : Int32) (x1 : Int32) (st : St)  (rr : Int32) (st' : St) (hf : f_X6_isOther x0 x1 st = some (rr, st')) : MM l yX6_isOther cX6_isOther 2 (some .boolean) 0 (oM G) [.int x0, .int x1] st (some (.int rr)) st' := by
  refine mk_MM (by decide +kernel) (Nat.le_of_ble_eq_true rfl) (fun X h r => ?_)
  refine k_sub (lv' := [(0, .int x0), (1, .int x1)]) [0, 1] rfl ?_
  unfold f_X6_isOther at hf
  refine k_iload_n (pc' := 1) h dX6_isOther_0 rfl rfl 0 rfl ?_
  by_cases c1 : x0 = (2 : Int32)
  · replace hf := if_t c1 hf
    refine k_tin (tgt := 32) h 2 dX6_isOther_1 (by rw [c1]; decide +kernel) (by decide) (by decide) rfl rfl ?_
    refine k_iload_n (pc' := 33) h dX6_isOther_32 rfl rfl 1 rfl ?_
    refine k_iconst (pc' := 34) h dX6_isOther_33 rfl ci_2 ?_
    refine k_icmp_le (tgt := 41) (pc' := 37) h dX6_isOther_34 rfl rfl (fun c2 => ?_) (fun c2 => ?_)
    · replace hf := if_t c2 hf
      refine k_iconst (pc' := 42) h dX6_isOther_41 rfl ci_0 ?_
      exact k_zret h r dX6_isOther_42 (by decide) (lf_i hf)
    · replace hf := if_f c2 hf
      refine k_iconst (pc' := 38) h dX6_isOther_37 rfl ci_1 ?_
      refine k_goto (tgt := 42) h dX6_isOther_38 rfl ?_
      exact k_zret h r dX6_isOther_42 (by decide) (lf_i hf)
  replace hf := if_f c1 hf
  by_cases c3 : x0 = (3 : Int32)
  · replace hf := if_t c3 hf
    refine k_tin (tgt := 87) h 3 dX6_isOther_1 (by rw [c3]; decide +kernel) (by decide) (by decide) rfl rfl ?_
    refine k_iconst (pc' := 88) h dX6_isOther_87 rfl ci_0 ?_
    exact k_zret h r dX6_isOther_88 (by decide) (lf_i hf)
  replace hf := if_f c3 hf
  by_cases c4 : x0 = (4 : Int32)
  · replace hf := if_t c4 hf
    refine k_tin (tgt := 74) h 4 dX6_isOther_1 (by rw [c4]; decide +kernel) (by decide) (by decide) rfl rfl ?_
    refine k_iload_n (pc' := 75) h dX6_isOther_74 rfl rfl 1 rfl ?_
    refine k_iconst (pc' := 76) h dX6_isOther_75 rfl ci_2 ?_
    have g5 := gd_1 hf
    replace hf := gd_2 hf
    refine k_irem (pc' := 77) h dX6_isOther_76 rfl (nz_n g5) ?_
    refine k_iconst (pc' := 78) h dX6_isOther_77 rfl ci_1 ?_
    refine k_icmp_ne (tgt := 85) (pc' := 81) h dX6_isOther_78 rfl rfl (fun c6 => ?_) (fun c6 => ?_)
    · replace hf := if_f c6 hf
      refine k_iconst (pc' := 86) h dX6_isOther_85 rfl ci_0 ?_
      exact k_zret h r dX6_isOther_86 (by decide) (lf_i hf)
    · replace hf := if_t c6 hf
      refine k_iconst (pc' := 82) h dX6_isOther_81 rfl ci_1 ?_
      refine k_goto (tgt := 86) h dX6_isOther_82 rfl ?_
      exact k_zret h r dX6_isOther_86 (by decide) (lf_i hf)
  replace hf := if_f c4 hf
  by_cases c7 : x0 = (5 : Int32)
  · replace hf := if_t c7 hf
    refine k_tin (tgt := 43) h 5 dX6_isOther_1 (by rw [c7]; decide +kernel) (by decide) (by decide) rfl rfl ?_
    refine k_iload_n (pc' := 44) h dX6_isOther_43 rfl rfl 1 rfl ?_
    refine k_iconst (pc' := 45) h dX6_isOther_44 rfl ci_5 ?_
    have g8 := gd_1 hf
    replace hf := gd_2 hf
    refine k_irem (pc' := 46) h dX6_isOther_45 rfl (nz_n g8) ?_
    refine k_iconst (pc' := 47) h dX6_isOther_46 rfl ci_4 ?_
    refine k_icmp_ne (tgt := 63) (pc' := 50) h dX6_isOther_47 rfl rfl (fun c9 => ?_) (fun c9 => ?_)
    · replace hf := if_f c9 hf
      refine k_iload_n (pc' := 64) h dX6_isOther_63 rfl rfl 1 rfl ?_
      refine k_iconst (pc' := 65) h dX6_isOther_64 rfl ci_2 ?_
      refine k_icmp_le (tgt := 72) (pc' := 68) h dX6_isOther_65 rfl rfl (fun c10 => ?_) (fun c10 => ?_)
      · replace hf := if_t c10 hf
        refine k_iconst (pc' := 73) h dX6_isOther_72 rfl ci_0 ?_
        exact k_zret h r dX6_isOther_73 (by decide) (lf_i hf)
      · replace hf := if_f c10 hf
        refine k_iconst (pc' := 69) h dX6_isOther_68 rfl ci_1 ?_
        refine k_goto (tgt := 73) h dX6_isOther_69 rfl ?_
        exact k_zret h r dX6_isOther_73 (by decide) (lf_i hf)
    · replace hf := if_t c9 hf
      refine k_iload_n (pc' := 51) h dX6_isOther_50 rfl rfl 1 rfl ?_
      refine k_iconst (pc' := 52) h dX6_isOther_51 rfl ci_2 ?_
      refine k_icmp_gt (tgt := 59) (pc' := 55) h dX6_isOther_52 rfl rfl (fun c11 => ?_) (fun c11 => ?_)
      · replace hf := if_t c11 hf
        refine k_iconst (pc' := 60) h dX6_isOther_59 rfl ci_0 ?_
        refine k_goto (tgt := 73) h dX6_isOther_60 rfl ?_
        exact k_zret h r dX6_isOther_73 (by decide) (lf_i hf)
      · replace hf := if_f c11 hf
        refine k_iconst (pc' := 56) h dX6_isOther_55 rfl ci_1 ?_
        refine k_goto (tgt := 73) h dX6_isOther_56 rfl ?_
        exact k_zret h r dX6_isOther_73 (by decide) (lf_i hf)
  replace hf := if_f c7 hf
  have hsw : x0.toInt ≠ 2 ∧ x0.toInt ≠ 3 ∧ x0.toInt ≠ 4 ∧ x0.toInt ≠ 5 := ⟨sw_ne c1 (by decide +kernel), sw_ne c3 (by decide +kernel), sw_ne c4 (by decide +kernel), sw_ne c7 (by decide +kernel)⟩
  refine k_tout (tgt := 87) h dX6_isOther_1 (by omega) rfl ?_
  refine k_iconst (pc' := 88) h dX6_isOther_87 rfl ci_0 ?_
  exact k_zret h r dX6_isOther_88 (by decide) (lf_i hf)
noncomputable def f_X6_wantsOn (x0 : Int32) (x1 : Int32) (st : St) : Option (Int32 × St) :=
  (gd (inb x0 6) ((f_X6_isOther (st.1 7 x0.toNatClampNeg) x1 st).bind (fun q2 => (if q2.1 = 0 then (gd (inb x0 6) (some (q2.2.1 10 x0.toNatClampNeg, q2.2))) else (gd (inb x0 6) (some (q2.2.1 11 x0.toNatClampNeg, q2.2)))))))
set_option maxHeartbeats 4000000 in
theorem c_X6_wantsOn {G : GG} (l : Launch) (x0 : Int32) (x1 : Int32) (st : St)  (rr : Int32) (st' : St) (hf : f_X6_wantsOn x0 x1 st = some (rr, st')) : MM l yX6_wantsOn cX6_wantsOn 3 (some .int) 1 (oM G) [.ref (al (oM G) 0), .int x0, .int x1] st (some (.int rr)) st' := by
  refine mk_MM (by decide +kernel) (Nat.le_of_ble_eq_true rfl) (fun X h r => ?_)
  refine k_sub (lv' := [(0, .ref (al (oM G) 0)), (1, .int x0), (2, .int x1)]) [0, 1, 2] rfl ?_
  unfold f_X6_wantsOn at hf
  refine k_aload_n (pc' := 1) h dX6_wantsOn_0 rfl rfl 0 rfl ?_
  refine k_get (v := .ref (al (oM G) 7)) (pc' := 4) h dX6_wantsOn_1 rfl bM_mo fl_X6_33 rfl ?_
  refine k_iload_n (pc' := 5) h dX6_wantsOn_4 rfl rfl 1 rfl ?_
  have g1 := gd_1 hf
  replace hf := gd_2 hf
  refine k_iald (pc' := 6) h dX6_wantsOn_5 rfl aM_7 g1 ?_
  refine k_iload_n (pc' := 7) h dX6_wantsOn_6 rfl rfl 2 rfl ?_
  obtain ⟨q2, hq2, hf⟩ := bd_s hf
  refine k_callS (As := [.int (st.1 7 x0.toNatClampNeg), .int x1]) (rest := []) (rv := some (.int q2.1)) (st' := q2.2) (stk' := [.int q2.1]) (pc' := 10) h dX6_wantsOn_7 rfl ml_X6_144 wc_X6_isOther ws_X6_isOther ⟨Nat.le_of_ble_eq_true rfl, Nat.le_of_ble_eq_true rfl⟩ rfl rfl (Nat.le_of_ble_eq_true rfl) (fun l => c_X6_isOther l (st.1 7 x0.toNatClampNeg) x1 st  _ _ hq2) rfl ?_
  refine k_if_eq (tgt := 22) (pc' := 13) h dX6_wantsOn_10 rfl rfl (fun c3 => ?_) (fun c3 => ?_)
  · replace hf := if_t c3 hf
    refine k_aload_n (pc' := 23) h dX6_wantsOn_22 rfl rfl 0 rfl ?_
    refine k_get (v := .ref (al (oM G) 10)) (pc' := 26) h dX6_wantsOn_23 rfl bM_mo fl_X6_42 rfl ?_
    refine k_iload_n (pc' := 27) h dX6_wantsOn_26 rfl rfl 1 rfl ?_
    have g4 := gd_1 hf
    replace hf := gd_2 hf
    refine k_iald (pc' := 28) h dX6_wantsOn_27 rfl aM_10 g4 ?_
    exact k_iret h r dX6_wantsOn_28 (lf_i hf)
  · replace hf := if_f c3 hf
    refine k_aload_n (pc' := 14) h dX6_wantsOn_13 rfl rfl 0 rfl ?_
    refine k_get (v := .ref (al (oM G) 11)) (pc' := 17) h dX6_wantsOn_14 rfl bM_mo fl_X6_45 rfl ?_
    refine k_iload_n (pc' := 18) h dX6_wantsOn_17 rfl rfl 1 rfl ?_
    have g5 := gd_1 hf
    replace hf := gd_2 hf
    refine k_iald (pc' := 19) h dX6_wantsOn_18 rfl aM_11 g5 ?_
    refine k_goto (tgt := 28) h dX6_wantsOn_19 rfl ?_
    exact k_iret h r dX6_wantsOn_28 (lf_i hf)
noncomputable def f_X6_wantsNow (x0 : Int32) (st : St) : Option (Int32 × St) :=
  (gd (inb (12 : Int32) 14) ((f_X6_wantsOn x0 (st.1 14 (12 : Int32).toNatClampNeg) st).bind (fun q2 => (some (q2.1, q2.2)))))
set_option maxHeartbeats 4000000 in
theorem c_X6_wantsNow {G : GG} (l : Launch) (x0 : Int32) (st : St)  (rr : Int32) (st' : St) (hf : f_X6_wantsNow x0 st = some (rr, st')) : MM l yX6_wantsNow cX6_wantsNow 2 (some .int) 2 (oM G) [.ref (al (oM G) 0), .int x0] st (some (.int rr)) st' := by
  refine mk_MM (by decide +kernel) (Nat.le_of_ble_eq_true rfl) (fun X h r => ?_)
  refine k_sub (lv' := [(0, .ref (al (oM G) 0)), (1, .int x0)]) [0, 1] rfl ?_
  unfold f_X6_wantsNow at hf
  refine k_aload_n (pc' := 1) h dX6_wantsNow_0 rfl rfl 0 rfl ?_
  refine k_iload_n (pc' := 2) h dX6_wantsNow_1 rfl rfl 1 rfl ?_
  refine k_aload_n (pc' := 3) h dX6_wantsNow_2 rfl rfl 0 rfl ?_
  refine k_get (v := .ref (al (oM G) 14)) (pc' := 6) h dX6_wantsNow_3 rfl bM_mo fl_X6_54 rfl ?_
  refine k_bipush (pc' := 8) h dX6_wantsNow_6 rfl cb_12 ?_
  have g1 := gd_1 hf
  replace hf := gd_2 hf
  refine k_iald (pc' := 9) h dX6_wantsNow_8 rfl aM_14 g1 ?_
  obtain ⟨q2, hq2, hf⟩ := bd_s hf
  refine k_callV (As := [.int x0, .int (st.1 14 (12 : Int32).toNatClampNeg)]) (rest := []) (rv := some (.int q2.1)) (st' := q2.2) (stk' := [.int q2.1]) (pc' := 12) h dX6_wantsNow_9 rfl ml_X6_148 wc_X6_wantsOn wi_X6_wantsOn ⟨Nat.le_of_ble_eq_true rfl, Nat.le_of_ble_eq_true rfl⟩ bM_mo rfl rfl rfl rfl (Nat.le_of_ble_eq_true rfl) (fun l => c_X6_wantsOn l x0 (st.1 14 (12 : Int32).toNatClampNeg) st  _ _ hq2) rfl ?_
  exact k_iret h r dX6_wantsNow_12 (lf_i hf)
noncomputable def f_X6_isKnown (x0 : Int32) (st : St) : Option (Int32 × St) :=
  (gd (inb x0 14) (if (st.1 14 x0.toNatClampNeg) ≤ (1 : Int32) then (some ((0 : Int32), st)) else (some ((1 : Int32), st))))
set_option maxHeartbeats 4000000 in
theorem c_X6_isKnown {G : GG} (l : Launch) (x0 : Int32) (st : St)  (rr : Int32) (st' : St) (hf : f_X6_isKnown x0 st = some (rr, st')) : MM l yX6_isKnown cX6_isKnown 2 (some .boolean) 0 (oM G) [.ref (al (oM G) 0), .int x0] st (some (.int rr)) st' := by
  refine mk_MM (by decide +kernel) (Nat.le_of_ble_eq_true rfl) (fun X h r => ?_)
  refine k_sub (lv' := [(0, .ref (al (oM G) 0)), (1, .int x0)]) [0, 1] rfl ?_
  unfold f_X6_isKnown at hf
  refine k_aload_n (pc' := 1) h dX6_isKnown_0 rfl rfl 0 rfl ?_
  refine k_get (v := .ref (al (oM G) 14)) (pc' := 4) h dX6_isKnown_1 rfl bM_mo fl_X6_54 rfl ?_
  refine k_iload_n (pc' := 5) h dX6_isKnown_4 rfl rfl 1 rfl ?_
  have g1 := gd_1 hf
  replace hf := gd_2 hf
  refine k_iald (pc' := 6) h dX6_isKnown_5 rfl aM_14 g1 ?_
  refine k_iconst (pc' := 7) h dX6_isKnown_6 rfl ci_1 ?_
  refine k_icmp_le (tgt := 14) (pc' := 10) h dX6_isKnown_7 rfl rfl (fun c2 => ?_) (fun c2 => ?_)
  · replace hf := if_t c2 hf
    refine k_iconst (pc' := 15) h dX6_isKnown_14 rfl ci_0 ?_
    exact k_zret h r dX6_isKnown_15 (by decide) (lf_i hf)
  · replace hf := if_f c2 hf
    refine k_iconst (pc' := 11) h dX6_isKnown_10 rfl ci_1 ?_
    refine k_goto (tgt := 15) h dX6_isKnown_11 rfl ?_
    exact k_zret h r dX6_isKnown_15 (by decide) (lf_i hf)
noncomputable def f_X6_isSilent (x0 : Int32) (st : St) : Option (Int32 × St) :=
  (gd (inb x0 6) (if (st.1 7 x0.toNatClampNeg) = (1 : Int32) then (some ((1 : Int32), st)) else (gd (inb x0 6) (if (st.1 7 x0.toNatClampNeg) = (4 : Int32) then (some ((1 : Int32), st)) else (some ((0 : Int32), st))))))
set_option maxHeartbeats 4000000 in
theorem c_X6_isSilent {G : GG} (l : Launch) (x0 : Int32) (st : St)  (rr : Int32) (st' : St) (hf : f_X6_isSilent x0 st = some (rr, st')) : MM l yX6_isSilent cX6_isSilent 2 (some .boolean) 0 (oM G) [.ref (al (oM G) 0), .int x0] st (some (.int rr)) st' := by
  refine mk_MM (by decide +kernel) (Nat.le_of_ble_eq_true rfl) (fun X h r => ?_)
  refine k_sub (lv' := [(0, .ref (al (oM G) 0)), (1, .int x0)]) [0, 1] rfl ?_
  unfold f_X6_isSilent at hf
  refine k_aload_n (pc' := 1) h dX6_isSilent_0 rfl rfl 0 rfl ?_
  refine k_get (v := .ref (al (oM G) 7)) (pc' := 4) h dX6_isSilent_1 rfl bM_mo fl_X6_33 rfl ?_
  refine k_iload_n (pc' := 5) h dX6_isSilent_4 rfl rfl 1 rfl ?_
  have g1 := gd_1 hf
  replace hf := gd_2 hf
  refine k_iald (pc' := 6) h dX6_isSilent_5 rfl aM_7 g1 ?_
  refine k_iconst (pc' := 7) h dX6_isSilent_6 rfl ci_1 ?_
  refine k_icmp_eq (tgt := 20) (pc' := 10) h dX6_isSilent_7 rfl rfl (fun c2 => ?_) (fun c2 => ?_)
  · replace hf := if_t c2 hf
    refine k_iconst (pc' := 21) h dX6_isSilent_20 rfl ci_1 ?_
    refine k_goto (tgt := 25) h dX6_isSilent_21 rfl ?_
    exact k_zret h r dX6_isSilent_25 (by decide) (lf_i hf)
  · replace hf := if_f c2 hf
    refine k_aload_n (pc' := 11) h dX6_isSilent_10 rfl rfl 0 rfl ?_
    refine k_get (v := .ref (al (oM G) 7)) (pc' := 14) h dX6_isSilent_11 rfl bM_mo fl_X6_33 rfl ?_
    refine k_iload_n (pc' := 15) h dX6_isSilent_14 rfl rfl 1 rfl ?_
    have g3 := gd_1 hf
    replace hf := gd_2 hf
    refine k_iald (pc' := 16) h dX6_isSilent_15 rfl aM_7 g3 ?_
    refine k_iconst (pc' := 17) h dX6_isSilent_16 rfl ci_4 ?_
    refine k_icmp_ne (tgt := 24) (pc' := 20) h dX6_isSilent_17 rfl rfl (fun c4 => ?_) (fun c4 => ?_)
    · replace hf := if_f c4 hf
      refine k_iconst (pc' := 25) h dX6_isSilent_24 rfl ci_0 ?_
      exact k_zret h r dX6_isSilent_25 (by decide) (lf_i hf)
    · replace hf := if_t c4 hf
      refine k_iconst (pc' := 21) h dX6_isSilent_20 rfl ci_1 ?_
      refine k_goto (tgt := 25) h dX6_isSilent_21 rfl ?_
      exact k_zret h r dX6_isSilent_25 (by decide) (lf_i hf)
noncomputable def f_X6_askedIn (x0 : Int32) (st : St) : Option (Int32 × St) :=
  ((f_X6_isKnown x0 st).bind (fun q1 => (if q1.1 = 0 then (some ((40 : Int32), q1.2)) else (some ((30 : Int32), q1.2)))))
set_option maxHeartbeats 4000000 in
theorem c_X6_askedIn {G : GG} (l : Launch) (x0 : Int32) (st : St)  (rr : Int32) (st' : St) (hf : f_X6_askedIn x0 st = some (rr, st')) : MM l yX6_askedIn cX6_askedIn 2 (some .int) 1 (oM G) [.ref (al (oM G) 0), .int x0] st (some (.int rr)) st' := by
  refine mk_MM (by decide +kernel) (Nat.le_of_ble_eq_true rfl) (fun X h r => ?_)
  refine k_sub (lv' := [(0, .ref (al (oM G) 0)), (1, .int x0)]) [0, 1] rfl ?_
  unfold f_X6_askedIn at hf
  refine k_aload_n (pc' := 1) h dX6_askedIn_0 rfl rfl 0 rfl ?_
  refine k_iload_n (pc' := 2) h dX6_askedIn_1 rfl rfl 1 rfl ?_
  obtain ⟨q1, hq1, hf⟩ := bd_s hf
  refine k_callV (As := [.int x0]) (rest := []) (rv := some (.int q1.1)) (st' := q1.2) (stk' := [.int q1.1]) (pc' := 5) h dX6_askedIn_2 rfl ml_X6_151 wc_X6_isKnown wi_X6_isKnown ⟨Nat.le_of_ble_eq_true rfl, Nat.le_of_ble_eq_true rfl⟩ bM_mo rfl rfl rfl rfl (Nat.le_of_ble_eq_true rfl) (fun l => c_X6_isKnown l x0 st  _ _ hq1) rfl ?_
  refine k_if_eq (tgt := 13) (pc' := 8) h dX6_askedIn_5 rfl rfl (fun c2 => ?_) (fun c2 => ?_)
  · replace hf := if_t c2 hf
    refine k_bipush (pc' := 15) h dX6_askedIn_13 rfl cb_40 ?_
    exact k_iret h r dX6_askedIn_15 (lf_i hf)
  · replace hf := if_f c2 hf
    refine k_bipush (pc' := 10) h dX6_askedIn_8 rfl cb_30 ?_
    refine k_goto (tgt := 15) h dX6_askedIn_10 rfl ?_
    exact k_iret h r dX6_askedIn_15 (lf_i hf)
noncomputable def f_X6_isSour (x0 : Int32) (x1 : Int32) (st : St) : Option (Int32 × St) :=
  (if x1 = (-9 : Int32) then (some ((0 : Int32), st)) else ((f_X6_isSilent x0 st).bind (fun q2 => (if q2.1 = 0 then (some ((0 : Int32), q2.2)) else ((f_X6_wantsNow x0 q2.2).bind (fun q4 => (if q4.1 = x1 then (some ((0 : Int32), q4.2)) else (some ((1 : Int32), q4.2)))))))))
set_option maxHeartbeats 4000000 in
theorem c_X6_isSour {G : GG} (l : Launch) (x0 : Int32) (x1 : Int32) (st : St)  (rr : Int32) (st' : St) (hf : f_X6_isSour x0 x1 st = some (rr, st')) : MM l yX6_isSour cX6_isSour 3 (some .boolean) 3 (oM G) [.ref (al (oM G) 0), .int x0, .int x1] st (some (.int rr)) st' := by
  refine mk_MM (by decide +kernel) (Nat.le_of_ble_eq_true rfl) (fun X h r => ?_)
  refine k_sub (lv' := [(0, .ref (al (oM G) 0)), (1, .int x0), (2, .int x1)]) [0, 1, 2] rfl ?_
  unfold f_X6_isSour at hf
  refine k_iload_n (pc' := 1) h dX6_isSour_0 rfl rfl 2 rfl ?_
  refine k_bipush (pc' := 3) h dX6_isSour_1 rfl cb_m9 ?_
  refine k_icmp_eq (tgt := 27) (pc' := 6) h dX6_isSour_3 rfl rfl (fun c1 => ?_) (fun c1 => ?_)
  · replace hf := if_t c1 hf
    refine k_iconst (pc' := 28) h dX6_isSour_27 rfl ci_0 ?_
    exact k_zret h r dX6_isSour_28 (by decide) (lf_i hf)
  · replace hf := if_f c1 hf
    refine k_aload_n (pc' := 7) h dX6_isSour_6 rfl rfl 0 rfl ?_
    refine k_iload_n (pc' := 8) h dX6_isSour_7 rfl rfl 1 rfl ?_
    obtain ⟨q2, hq2, hf⟩ := bd_s hf
    refine k_callV (As := [.int x0]) (rest := []) (rv := some (.int q2.1)) (st' := q2.2) (stk' := [.int q2.1]) (pc' := 11) h dX6_isSour_8 rfl ml_X6_154 wc_X6_isSilent wi_X6_isSilent ⟨Nat.le_of_ble_eq_true rfl, Nat.le_of_ble_eq_true rfl⟩ bM_mo rfl rfl rfl rfl (Nat.le_of_ble_eq_true rfl) (fun l => c_X6_isSilent l x0 st  _ _ hq2) rfl ?_
    refine k_if_eq (tgt := 27) (pc' := 14) h dX6_isSour_11 rfl rfl (fun c3 => ?_) (fun c3 => ?_)
    · replace hf := if_t c3 hf
      refine k_iconst (pc' := 28) h dX6_isSour_27 rfl ci_0 ?_
      exact k_zret h r dX6_isSour_28 (by decide) (lf_i hf)
    · replace hf := if_f c3 hf
      refine k_aload_n (pc' := 15) h dX6_isSour_14 rfl rfl 0 rfl ?_
      refine k_iload_n (pc' := 16) h dX6_isSour_15 rfl rfl 1 rfl ?_
      obtain ⟨q4, hq4, hf⟩ := bd_s hf
      refine k_callV (As := [.int x0]) (rest := []) (rv := some (.int q4.1)) (st' := q4.2) (stk' := [.int q4.1]) (pc' := 19) h dX6_isSour_16 rfl ml_X6_157 wc_X6_wantsNow wi_X6_wantsNow ⟨Nat.le_of_ble_eq_true rfl, Nat.le_of_ble_eq_true rfl⟩ bM_mo rfl rfl rfl rfl (Nat.le_of_ble_eq_true rfl) (fun l => c_X6_wantsNow l x0 q2.2  _ _ hq4) rfl ?_
      refine k_iload_n (pc' := 20) h dX6_isSour_19 rfl rfl 2 rfl ?_
      refine k_icmp_eq (tgt := 27) (pc' := 23) h dX6_isSour_20 rfl rfl (fun c5 => ?_) (fun c5 => ?_)
      · replace hf := if_t c5 hf
        refine k_iconst (pc' := 28) h dX6_isSour_27 rfl ci_0 ?_
        exact k_zret h r dX6_isSour_28 (by decide) (lf_i hf)
      · replace hf := if_f c5 hf
        refine k_iconst (pc' := 24) h dX6_isSour_23 rfl ci_1 ?_
        refine k_goto (tgt := 28) h dX6_isSour_24 rfl ?_
        exact k_zret h r dX6_isSour_28 (by decide) (lf_i hf)
noncomputable def f_X6_takesIn (x0 : Int32) (x1 : Int32) (st : St) : Option (Int32 × St) :=
  (if x1 = (-9 : Int32) then ((f_X6_askedIn x0 st).bind (fun q9 => (some (q9.1, q9.2)))) else ((f_X6_wantsNow x0 st).bind (fun q2 => (if q2.1 = x1 then (some ((9 : Int32), q2.2)) else ((f_X6_isSilent x0 q2.2).bind (fun q4 => (if q4.1 = 0 then ((f_X6_askedIn x0 q4.2).bind (fun q6 => (gd (inb x0 6) (if (q6.2.1 7 x0.toNatClampNeg) = (3 : Int32) then (some (((9 : Int32) + q6.1) + (20 : Int32), q6.2)) else (some (((9 : Int32) + q6.1) + (10 : Int32), q6.2)))))) else (some ((9 : Int32), q4.2)))))))))
set_option maxHeartbeats 4000000 in
theorem c_X6_takesIn {G : GG} (l : Launch) (x0 : Int32) (x1 : Int32) (st : St)  (rr : Int32) (st' : St) (hf : f_X6_takesIn x0 x1 st = some (rr, st')) : MM l yX6_takesIn cX6_takesIn 3 (some .int) 3 (oM G) [.ref (al (oM G) 0), .int x0, .int x1] st (some (.int rr)) st' := by
  refine mk_MM (by decide +kernel) (Nat.le_of_ble_eq_true rfl) (fun X h r => ?_)
  refine k_sub (lv' := [(0, .ref (al (oM G) 0)), (1, .int x0), (2, .int x1)]) [0, 1, 2] rfl ?_
  unfold f_X6_takesIn at hf
  refine k_iload_n (pc' := 1) h dX6_takesIn_0 rfl rfl 2 rfl ?_
  refine k_bipush (pc' := 3) h dX6_takesIn_1 rfl cb_m9 ?_
  refine k_icmp_ne (tgt := 12) (pc' := 6) h dX6_takesIn_3 rfl rfl (fun c1 => ?_) (fun c1 => ?_)
  · replace hf := if_f c1 hf
    refine k_aload_n (pc' := 13) h dX6_takesIn_12 rfl rfl 0 rfl ?_
    refine k_iload_n (pc' := 14) h dX6_takesIn_13 rfl rfl 1 rfl ?_
    obtain ⟨q2, hq2, hf⟩ := bd_s hf
    refine k_callV (As := [.int x0]) (rest := []) (rv := some (.int q2.1)) (st' := q2.2) (stk' := [.int q2.1]) (pc' := 17) h dX6_takesIn_14 rfl ml_X6_157 wc_X6_wantsNow wi_X6_wantsNow ⟨Nat.le_of_ble_eq_true rfl, Nat.le_of_ble_eq_true rfl⟩ bM_mo rfl rfl rfl rfl (Nat.le_of_ble_eq_true rfl) (fun l => c_X6_wantsNow l x0 st  _ _ hq2) rfl ?_
    refine k_iload_n (pc' := 18) h dX6_takesIn_17 rfl rfl 2 rfl ?_
    refine k_icmp_eq (tgt := 29) (pc' := 21) h dX6_takesIn_18 rfl rfl (fun c3 => ?_) (fun c3 => ?_)
    · replace hf := if_t c3 hf
      refine k_bipush (pc' := 31) h dX6_takesIn_29 rfl cb_9 ?_
      exact k_iret h r dX6_takesIn_31 (lf_i hf)
    · replace hf := if_f c3 hf
      refine k_aload_n (pc' := 22) h dX6_takesIn_21 rfl rfl 0 rfl ?_
      refine k_iload_n (pc' := 23) h dX6_takesIn_22 rfl rfl 1 rfl ?_
      obtain ⟨q4, hq4, hf⟩ := bd_s hf
      refine k_callV (As := [.int x0]) (rest := []) (rv := some (.int q4.1)) (st' := q4.2) (stk' := [.int q4.1]) (pc' := 26) h dX6_takesIn_23 rfl ml_X6_154 wc_X6_isSilent wi_X6_isSilent ⟨Nat.le_of_ble_eq_true rfl, Nat.le_of_ble_eq_true rfl⟩ bM_mo rfl rfl rfl rfl (Nat.le_of_ble_eq_true rfl) (fun l => c_X6_isSilent l x0 q2.2  _ _ hq4) rfl ?_
      refine k_if_eq (tgt := 32) (pc' := 29) h dX6_takesIn_26 rfl rfl (fun c5 => ?_) (fun c5 => ?_)
      · replace hf := if_t c5 hf
        refine k_bipush (pc' := 34) h dX6_takesIn_32 rfl cb_9 ?_
        refine k_aload_n (pc' := 35) h dX6_takesIn_34 rfl rfl 0 rfl ?_
        refine k_iload_n (pc' := 36) h dX6_takesIn_35 rfl rfl 1 rfl ?_
        obtain ⟨q6, hq6, hf⟩ := bd_s hf
        refine k_callV (As := [.int x0]) (rest := [.int (9 : Int32)]) (rv := some (.int q6.1)) (st' := q6.2) (stk' := [.int q6.1, .int (9 : Int32)]) (pc' := 39) h dX6_takesIn_36 rfl ml_X6_160 wc_X6_askedIn wi_X6_askedIn ⟨Nat.le_of_ble_eq_true rfl, Nat.le_of_ble_eq_true rfl⟩ bM_mo rfl rfl rfl rfl (Nat.le_of_ble_eq_true rfl) (fun l => c_X6_askedIn l x0 q4.2  _ _ hq6) rfl ?_
        refine k_iadd (pc' := 40) h dX6_takesIn_39 rfl ?_
        refine k_aload_n (pc' := 41) h dX6_takesIn_40 rfl rfl 0 rfl ?_
        refine k_get (v := .ref (al (oM G) 7)) (pc' := 44) h dX6_takesIn_41 rfl bM_mo fl_X6_33 rfl ?_
        refine k_iload_n (pc' := 45) h dX6_takesIn_44 rfl rfl 1 rfl ?_
        have g7 := gd_1 hf
        replace hf := gd_2 hf
        refine k_iald (pc' := 46) h dX6_takesIn_45 rfl aM_7 g7 ?_
        refine k_iconst (pc' := 47) h dX6_takesIn_46 rfl ci_3 ?_
        refine k_icmp_ne (tgt := 55) (pc' := 50) h dX6_takesIn_47 rfl rfl (fun c8 => ?_) (fun c8 => ?_)
        · replace hf := if_f c8 hf
          refine k_bipush (pc' := 57) h dX6_takesIn_55 rfl cb_10 ?_
          refine k_iadd (pc' := 58) h dX6_takesIn_57 rfl ?_
          exact k_iret h r dX6_takesIn_58 (lf_i hf)
        · replace hf := if_t c8 hf
          refine k_bipush (pc' := 52) h dX6_takesIn_50 rfl cb_20 ?_
          refine k_goto (tgt := 57) h dX6_takesIn_52 rfl ?_
          refine k_iadd (pc' := 58) h dX6_takesIn_57 rfl ?_
          exact k_iret h r dX6_takesIn_58 (lf_i hf)
      · replace hf := if_f c5 hf
        refine k_bipush (pc' := 31) h dX6_takesIn_29 rfl cb_9 ?_
        exact k_iret h r dX6_takesIn_31 (lf_i hf)
  · replace hf := if_t c1 hf
    refine k_aload_n (pc' := 7) h dX6_takesIn_6 rfl rfl 0 rfl ?_
    refine k_iload_n (pc' := 8) h dX6_takesIn_7 rfl rfl 1 rfl ?_
    obtain ⟨q9, hq9, hf⟩ := bd_s hf
    refine k_callV (As := [.int x0]) (rest := []) (rv := some (.int q9.1)) (st' := q9.2) (stk' := [.int q9.1]) (pc' := 11) h dX6_takesIn_8 rfl ml_X6_160 wc_X6_askedIn wi_X6_askedIn ⟨Nat.le_of_ble_eq_true rfl, Nat.le_of_ble_eq_true rfl⟩ bM_mo rfl rfl rfl rfl (Nat.le_of_ble_eq_true rfl) (fun l => c_X6_askedIn l x0 st  _ _ hq9) rfl ?_
    exact k_iret h r dX6_takesIn_11 (lf_i hf)
noncomputable def f_X6_regularTells (x0 : Int32) (x1 : Int32) (st : St) : Option (Int32 × St) :=
  (if x1 = (0 : Int32) then (gd (inb x0 6) (some (st.1 7 x0.toNatClampNeg, st))) else (if x1 = (1 : Int32) then (gd (inb x0 6) (some (st.1 8 x0.toNatClampNeg, st))) else (if x1 = (2 : Int32) then (gd (inb x0 6) (some (st.1 9 x0.toNatClampNeg, st))) else (if x1 = (3 : Int32) then (gd (inb x0 6) (some (st.1 10 x0.toNatClampNeg, st))) else (if x1 = (4 : Int32) then (gd (inb x0 6) (some (st.1 11 x0.toNatClampNeg, st))) else (if x1 = (5 : Int32) then (gd (inb x0 6) (some (st.1 12 x0.toNatClampNeg, st))) else (if x1 = (6 : Int32) then (gd (inb x0 14) (some (st.1 14 x0.toNatClampNeg, st))) else (if x1 = (7 : Int32) then (gd (inb ((6 : Int32) + x0) 14) (some (st.1 14 ((6 : Int32) + x0).toNatClampNeg, st))) else ((f_X6_wantsNow x0 st).bind (fun q17 => (some (q17.1, q17.2))))))))))))
set_option maxHeartbeats 4000000 in
theorem c_X6_regularTells {G : GG} (l : Launch) (x0 : Int32) (x1 : Int32) (st : St)  (rr : Int32) (st' : St) (hf : f_X6_regularTells x0 x1 st = some (rr, st')) : MM l yX6_regularTells cX6_regularTells 3 (some .int) 3 (oM G) [.ref (al (oM G) 0), .int x0, .int x1] st (some (.int rr)) st' := by
  refine mk_MM (by decide +kernel) (Nat.le_of_ble_eq_true rfl) (fun X h r => ?_)
  refine k_sub (lv' := [(0, .ref (al (oM G) 0)), (1, .int x0), (2, .int x1)]) [0, 1, 2] rfl ?_
  unfold f_X6_regularTells at hf
  refine k_iload_n (pc' := 1) h dX6_regularTells_0 rfl rfl 2 rfl ?_
  by_cases c1 : x1 = (0 : Int32)
  · replace hf := if_t c1 hf
    refine k_tin (tgt := 48) h 0 dX6_regularTells_1 (by rw [c1]; decide +kernel) (by decide) (by decide) rfl rfl ?_
    refine k_aload_n (pc' := 49) h dX6_regularTells_48 rfl rfl 0 rfl ?_
    refine k_get (v := .ref (al (oM G) 7)) (pc' := 52) h dX6_regularTells_49 rfl bM_mo fl_X6_33 rfl ?_
    refine k_iload_n (pc' := 53) h dX6_regularTells_52 rfl rfl 1 rfl ?_
    have g2 := gd_1 hf
    replace hf := gd_2 hf
    refine k_iald (pc' := 54) h dX6_regularTells_53 rfl aM_7 g2 ?_
    exact k_iret h r dX6_regularTells_54 (lf_i hf)
  replace hf := if_f c1 hf
  by_cases c3 : x1 = (1 : Int32)
  · replace hf := if_t c3 hf
    refine k_tin (tgt := 55) h 1 dX6_regularTells_1 (by rw [c3]; decide +kernel) (by decide) (by decide) rfl rfl ?_
    refine k_aload_n (pc' := 56) h dX6_regularTells_55 rfl rfl 0 rfl ?_
    refine k_get (v := .ref (al (oM G) 8)) (pc' := 59) h dX6_regularTells_56 rfl bM_mo fl_X6_36 rfl ?_
    refine k_iload_n (pc' := 60) h dX6_regularTells_59 rfl rfl 1 rfl ?_
    have g4 := gd_1 hf
    replace hf := gd_2 hf
    refine k_iald (pc' := 61) h dX6_regularTells_60 rfl aM_8 g4 ?_
    exact k_iret h r dX6_regularTells_61 (lf_i hf)
  replace hf := if_f c3 hf
  by_cases c5 : x1 = (2 : Int32)
  · replace hf := if_t c5 hf
    refine k_tin (tgt := 62) h 2 dX6_regularTells_1 (by rw [c5]; decide +kernel) (by decide) (by decide) rfl rfl ?_
    refine k_aload_n (pc' := 63) h dX6_regularTells_62 rfl rfl 0 rfl ?_
    refine k_get (v := .ref (al (oM G) 9)) (pc' := 66) h dX6_regularTells_63 rfl bM_mo fl_X6_39 rfl ?_
    refine k_iload_n (pc' := 67) h dX6_regularTells_66 rfl rfl 1 rfl ?_
    have g6 := gd_1 hf
    replace hf := gd_2 hf
    refine k_iald (pc' := 68) h dX6_regularTells_67 rfl aM_9 g6 ?_
    exact k_iret h r dX6_regularTells_68 (lf_i hf)
  replace hf := if_f c5 hf
  by_cases c7 : x1 = (3 : Int32)
  · replace hf := if_t c7 hf
    refine k_tin (tgt := 69) h 3 dX6_regularTells_1 (by rw [c7]; decide +kernel) (by decide) (by decide) rfl rfl ?_
    refine k_aload_n (pc' := 70) h dX6_regularTells_69 rfl rfl 0 rfl ?_
    refine k_get (v := .ref (al (oM G) 10)) (pc' := 73) h dX6_regularTells_70 rfl bM_mo fl_X6_42 rfl ?_
    refine k_iload_n (pc' := 74) h dX6_regularTells_73 rfl rfl 1 rfl ?_
    have g8 := gd_1 hf
    replace hf := gd_2 hf
    refine k_iald (pc' := 75) h dX6_regularTells_74 rfl aM_10 g8 ?_
    exact k_iret h r dX6_regularTells_75 (lf_i hf)
  replace hf := if_f c7 hf
  by_cases c9 : x1 = (4 : Int32)
  · replace hf := if_t c9 hf
    refine k_tin (tgt := 76) h 4 dX6_regularTells_1 (by rw [c9]; decide +kernel) (by decide) (by decide) rfl rfl ?_
    refine k_aload_n (pc' := 77) h dX6_regularTells_76 rfl rfl 0 rfl ?_
    refine k_get (v := .ref (al (oM G) 11)) (pc' := 80) h dX6_regularTells_77 rfl bM_mo fl_X6_45 rfl ?_
    refine k_iload_n (pc' := 81) h dX6_regularTells_80 rfl rfl 1 rfl ?_
    have g10 := gd_1 hf
    replace hf := gd_2 hf
    refine k_iald (pc' := 82) h dX6_regularTells_81 rfl aM_11 g10 ?_
    exact k_iret h r dX6_regularTells_82 (lf_i hf)
  replace hf := if_f c9 hf
  by_cases c11 : x1 = (5 : Int32)
  · replace hf := if_t c11 hf
    refine k_tin (tgt := 83) h 5 dX6_regularTells_1 (by rw [c11]; decide +kernel) (by decide) (by decide) rfl rfl ?_
    refine k_aload_n (pc' := 84) h dX6_regularTells_83 rfl rfl 0 rfl ?_
    refine k_get (v := .ref (al (oM G) 12)) (pc' := 87) h dX6_regularTells_84 rfl bM_mo fl_X6_48 rfl ?_
    refine k_iload_n (pc' := 88) h dX6_regularTells_87 rfl rfl 1 rfl ?_
    have g12 := gd_1 hf
    replace hf := gd_2 hf
    refine k_iald (pc' := 89) h dX6_regularTells_88 rfl aM_12 g12 ?_
    exact k_iret h r dX6_regularTells_89 (lf_i hf)
  replace hf := if_f c11 hf
  by_cases c13 : x1 = (6 : Int32)
  · replace hf := if_t c13 hf
    refine k_tin (tgt := 90) h 6 dX6_regularTells_1 (by rw [c13]; decide +kernel) (by decide) (by decide) rfl rfl ?_
    refine k_aload_n (pc' := 91) h dX6_regularTells_90 rfl rfl 0 rfl ?_
    refine k_get (v := .ref (al (oM G) 14)) (pc' := 94) h dX6_regularTells_91 rfl bM_mo fl_X6_54 rfl ?_
    refine k_iload_n (pc' := 95) h dX6_regularTells_94 rfl rfl 1 rfl ?_
    have g14 := gd_1 hf
    replace hf := gd_2 hf
    refine k_iald (pc' := 96) h dX6_regularTells_95 rfl aM_14 g14 ?_
    exact k_iret h r dX6_regularTells_96 (lf_i hf)
  replace hf := if_f c13 hf
  by_cases c15 : x1 = (7 : Int32)
  · replace hf := if_t c15 hf
    refine k_tin (tgt := 97) h 7 dX6_regularTells_1 (by rw [c15]; decide +kernel) (by decide) (by decide) rfl rfl ?_
    refine k_aload_n (pc' := 98) h dX6_regularTells_97 rfl rfl 0 rfl ?_
    refine k_get (v := .ref (al (oM G) 14)) (pc' := 101) h dX6_regularTells_98 rfl bM_mo fl_X6_54 rfl ?_
    refine k_bipush (pc' := 103) h dX6_regularTells_101 rfl cb_6 ?_
    refine k_iload_n (pc' := 104) h dX6_regularTells_103 rfl rfl 1 rfl ?_
    refine k_iadd (pc' := 105) h dX6_regularTells_104 rfl ?_
    have g16 := gd_1 hf
    replace hf := gd_2 hf
    refine k_iald (pc' := 106) h dX6_regularTells_105 rfl aM_14 g16 ?_
    exact k_iret h r dX6_regularTells_106 (lf_i hf)
  replace hf := if_f c15 hf
  have hsw : x1.toInt ≠ 0 ∧ x1.toInt ≠ 1 ∧ x1.toInt ≠ 2 ∧ x1.toInt ≠ 3 ∧ x1.toInt ≠ 4 ∧ x1.toInt ≠ 5 ∧ x1.toInt ≠ 6 ∧ x1.toInt ≠ 7 := ⟨sw_ne c1 (by decide +kernel), sw_ne c3 (by decide +kernel), sw_ne c5 (by decide +kernel), sw_ne c7 (by decide +kernel), sw_ne c9 (by decide +kernel), sw_ne c11 (by decide +kernel), sw_ne c13 (by decide +kernel), sw_ne c15 (by decide +kernel)⟩
  refine k_tout (tgt := 107) h dX6_regularTells_1 (by omega) rfl ?_
  refine k_aload_n (pc' := 108) h dX6_regularTells_107 rfl rfl 0 rfl ?_
  refine k_iload_n (pc' := 109) h dX6_regularTells_108 rfl rfl 1 rfl ?_
  obtain ⟨q17, hq17, hf⟩ := bd_s hf
  refine k_callV (As := [.int x0]) (rest := []) (rv := some (.int q17.1)) (st' := q17.2) (stk' := [.int q17.1]) (pc' := 112) h dX6_regularTells_109 rfl ml_X6_157 wc_X6_wantsNow wi_X6_wantsNow ⟨Nat.le_of_ble_eq_true rfl, Nat.le_of_ble_eq_true rfl⟩ bM_mo rfl rfl rfl rfl (Nat.le_of_ble_eq_true rfl) (fun l => c_X6_wantsNow l x0 st  _ _ hq17) rfl ?_
  exact k_iret h r dX6_regularTells_112 (lf_i hf)
noncomputable def f_X6_regular (x0 : Int32) (x1 : Int32) (st : St) : Option (Int32 × St) :=
  ((f_X6_isRegular x0 st).bind (fun q1 => (if q1.1 = 0 then (some ((-1 : Int32), q1.2)) else ((f_X6_in x1 (0 : Int32) (8 : Int32) q1.2).bind (fun q3 => (if q3.1 = 0 then (some ((-1 : Int32), q3.2)) else ((f_X6_regularTells x0 x1 q3.2).bind (fun q5 => ((f_X6_tells q5.1 (1 : Int32) q5.2).bind (fun q6 => (some (q6.1, q6.2))))))))))))
set_option maxHeartbeats 4000000 in
theorem c_X6_regular {G : GG} (l : Launch) (x0 : Int32) (x1 : Int32) (st : St)  (rr : Int32) (st' : St) (hf : f_X6_regular x0 x1 st = some (rr, st')) : MM l yX6_regular cX6_regular 3 (some .int) 4 (oM G) [.ref (al (oM G) 0), .int x0, .int x1] st (some (.int rr)) st' := by
  refine mk_MM (by decide +kernel) (Nat.le_of_ble_eq_true rfl) (fun X h r => ?_)
  refine k_sub (lv' := [(0, .ref (al (oM G) 0)), (1, .int x0), (2, .int x1)]) [0, 1, 2] rfl ?_
  unfold f_X6_regular at hf
  refine k_aload_n (pc' := 1) h dX6_regular_0 rfl rfl 0 rfl ?_
  refine k_iload_n (pc' := 2) h dX6_regular_1 rfl rfl 1 rfl ?_
  obtain ⟨q1, hq1, hf⟩ := bd_s hf
  refine k_callV (As := [.int x0]) (rest := []) (rv := some (.int q1.1)) (st' := q1.2) (stk' := [.int q1.1]) (pc' := 5) h dX6_regular_2 rfl ml_X6_163 wc_X6_isRegular wi_X6_isRegular ⟨Nat.le_of_ble_eq_true rfl, Nat.le_of_ble_eq_true rfl⟩ bM_mo rfl rfl rfl rfl (Nat.le_of_ble_eq_true rfl) (fun l => c_X6_isRegular l x0 st  _ _ hq1) rfl ?_
  refine k_if_eq (tgt := 32) (pc' := 8) h dX6_regular_5 rfl rfl (fun c2 => ?_) (fun c2 => ?_)
  · replace hf := if_t c2 hf
    refine k_iconst (pc' := 33) h dX6_regular_32 rfl ci_m1 ?_
    exact k_iret h r dX6_regular_33 (lf_i hf)
  · replace hf := if_f c2 hf
    refine k_iload_n (pc' := 9) h dX6_regular_8 rfl rfl 2 rfl ?_
    refine k_iconst (pc' := 10) h dX6_regular_9 rfl ci_0 ?_
    refine k_bipush (pc' := 12) h dX6_regular_10 rfl cb_8 ?_
    obtain ⟨q3, hq3, hf⟩ := bd_s hf
    refine k_callS (As := [.int x1, .int (0 : Int32), .int (8 : Int32)]) (rest := []) (rv := some (.int q3.1)) (st' := q3.2) (stk' := [.int q3.1]) (pc' := 15) h dX6_regular_12 rfl ml_X6_83 wc_X6_in ws_X6_in ⟨Nat.le_of_ble_eq_true rfl, Nat.le_of_ble_eq_true rfl⟩ rfl rfl (Nat.le_of_ble_eq_true rfl) (fun l => c_X6_in l x1 (0 : Int32) (8 : Int32) q1.2  _ _ hq3) rfl ?_
    refine k_if_eq (tgt := 32) (pc' := 18) h dX6_regular_15 rfl rfl (fun c4 => ?_) (fun c4 => ?_)
    · replace hf := if_t c4 hf
      refine k_iconst (pc' := 33) h dX6_regular_32 rfl ci_m1 ?_
      exact k_iret h r dX6_regular_33 (lf_i hf)
    · replace hf := if_f c4 hf
      refine k_aload_n (pc' := 19) h dX6_regular_18 rfl rfl 0 rfl ?_
      refine k_aload_n (pc' := 20) h dX6_regular_19 rfl rfl 0 rfl ?_
      refine k_iload_n (pc' := 21) h dX6_regular_20 rfl rfl 1 rfl ?_
      refine k_iload_n (pc' := 22) h dX6_regular_21 rfl rfl 2 rfl ?_
      obtain ⟨q5, hq5, hf⟩ := bd_s hf
      refine k_callV (As := [.int x0, .int x1]) (rest := [.ref (al (oM G) 0)]) (rv := some (.int q5.1)) (st' := q5.2) (stk' := [.int q5.1, .ref (al (oM G) 0)]) (pc' := 25) h dX6_regular_22 rfl ml_X6_166 wc_X6_regularTells wi_X6_regularTells ⟨Nat.le_of_ble_eq_true rfl, Nat.le_of_ble_eq_true rfl⟩ bM_mo rfl rfl rfl rfl (Nat.le_of_ble_eq_true rfl) (fun l => c_X6_regularTells l x0 x1 q3.2  _ _ hq5) rfl ?_
      refine k_iconst (pc' := 26) h dX6_regular_25 rfl ci_1 ?_
      obtain ⟨q6, hq6, hf⟩ := bd_s hf
      refine k_callV (As := [.int q5.1, .int (1 : Int32)]) (rest := []) (rv := some (.int q6.1)) (st' := q6.2) (stk' := [.int q6.1]) (pc' := 29) h dX6_regular_26 rfl ml_X6_105 wc_X6_tells wi_X6_tells ⟨Nat.le_of_ble_eq_true rfl, Nat.le_of_ble_eq_true rfl⟩ bM_mo rfl rfl rfl rfl (Nat.le_of_ble_eq_true rfl) (fun l => c_X6_tells l q5.1 (1 : Int32) q5.2  _ _ hq6) rfl ?_
      refine k_goto (tgt := 33) h dX6_regular_29 rfl ?_
      exact k_iret h r dX6_regular_33 (lf_i hf)
noncomputable def l_X6_soursBy_4 (p1 : Int32) (v2 : Int32) (v3 : Int32) (st : St) : Option ((Int32 × Int32 × St) ⊕ (Int32 × Int32 × St)) :=
  (if (6 : Int32) ≤ v3 then (some (.inr (v2, v3, st))) else ((f_X6_isSour p1 v3 st).bind (fun q2 => (if q2.1 = 0 then (lw (v2 + (0 : Int32)) (fun y4 => (some (.inl (y4, v3 + (1 : Int32), q2.2))))) else (lw (v2 + (1 : Int32)) (fun y5 => (some (.inl (y5, v3 + (1 : Int32), q2.2)))))))))
set_option maxHeartbeats 4000000 in
theorem w_X6_soursBy_4 {G : GG} {X : Cx} (h : Ok X (oM G) cX6_soursBy RX6 4 (RM 4))  (p1 : Int32)  (n : Nat) (v2 : Int32) (v3 : Int32) (st : St) (q : Int32 × Int32 × St) (hq : iter (fun v : Int32 × Int32 × St => l_X6_soursBy_4 p1 v.1 v.2.1 v.2.2) n (v2, v3, st) = some q) (kx : Wk X (oM G) 4 q.2.2 33 [(0, .ref (al (oM G) 0)), (1, .int p1), (2, .int q.1), (3, .int q.2.1)] []) : Wk X (oM G) 4 st 4 [(0, .ref (al (oM G) 0)), (1, .int p1), (2, .int v2), (3, .int v3)] [] := by
  refine iter_rule (hd := (fun v : Int32 × Int32 × St => Wk X (oM G) 4 v.2.2 4 [(0, .ref (al (oM G) 0)), (1, .int p1), (2, .int v.1), (3, .int v.2.1)] [])) (ex := (fun v : Int32 × Int32 × St => Wk X (oM G) 4 v.2.2 33 [(0, .ref (al (oM G) 0)), (1, .int p1), (2, .int v.1), (3, .int v.2.1)] [])) ?_ n (v2, v3, st) q hq kx
  rintro ⟨v2, v3, st⟩ oo hbv K
  show Wk X (oM G) 4 st 4 [(0, .ref (al (oM G) 0)), (1, .int p1), (2, .int v2), (3, .int v3)] []
  have hf : l_X6_soursBy_4 p1 v2 v3 st = some oo := hbv
  unfold l_X6_soursBy_4 at hf
  refine k_iload_n (pc' := 5) h dX6_soursBy_4 rfl rfl 3 rfl ?_
  refine k_bipush (pc' := 7) h dX6_soursBy_5 rfl cb_6 ?_
  refine k_icmp_ge (tgt := 33) (pc' := 10) h dX6_soursBy_7 rfl rfl (fun c1 => ?_) (fun c1 => ?_)
  · replace hf := if_t c1 hf
    refine k_sub (lv' := [(0, .ref (al (oM G) 0)), (1, .int p1), (2, .int v2), (3, .int v3)]) [0, 1, 2, 3] rfl ?_
    exact lp_o hf K
  · replace hf := if_f c1 hf
    refine k_iload_n (pc' := 11) h dX6_soursBy_10 rfl rfl 2 rfl ?_
    refine k_aload_n (pc' := 12) h dX6_soursBy_11 rfl rfl 0 rfl ?_
    refine k_iload_n (pc' := 13) h dX6_soursBy_12 rfl rfl 1 rfl ?_
    refine k_iload_n (pc' := 14) h dX6_soursBy_13 rfl rfl 3 rfl ?_
    obtain ⟨q2, hq2, hf⟩ := bd_s hf
    refine k_callV (As := [.int p1, .int v3]) (rest := [.int v2]) (rv := some (.int q2.1)) (st' := q2.2) (stk' := [.int q2.1, .int v2]) (pc' := 17) h dX6_soursBy_14 rfl ml_X6_169 wc_X6_isSour wi_X6_isSour ⟨Nat.le_of_ble_eq_true rfl, Nat.le_of_ble_eq_true rfl⟩ bM_mo rfl rfl rfl rfl (Nat.le_of_ble_eq_true rfl) (fun l => c_X6_isSour l p1 v3 st  _ _ hq2) rfl ?_
    refine k_if_eq (tgt := 24) (pc' := 20) h dX6_soursBy_17 rfl rfl (fun c3 => ?_) (fun c3 => ?_)
    · replace hf := if_t c3 hf
      refine k_iconst (pc' := 25) h dX6_soursBy_24 rfl ci_0 ?_
      refine k_iadd (pc' := 26) h dX6_soursBy_25 rfl ?_
      obtain ⟨y4, hy4, hf⟩ := lw_s hf
      refine k_eqi hy4 ?_
      refine k_istore_n (lv' := [(0, .ref (al (oM G) 0)), (1, .int p1), (2, .int y4), (3, .int v3)]) (pc' := 27) h dX6_soursBy_26 rfl rfl (Nat.le_of_ble_eq_true rfl) [1, 2, 0, 3] rfl ?_
      refine k_iinc (lv' := [(0, .ref (al (oM G) 0)), (1, .int p1), (2, .int y4), (3, .int (v3 + (1 : Int32)))]) (pc' := 30) h dX6_soursBy_27 rfl 3 rfl (congrArg (fun z => v3 + z) ci_1) (Nat.le_of_ble_eq_true rfl) [1, 2, 3, 0] rfl ?_
      refine k_goto (tgt := 4) h dX6_soursBy_30 rfl ?_
      refine k_sub (lv' := [(0, .ref (al (oM G) 0)), (1, .int p1), (2, .int y4), (3, .int (v3 + (1 : Int32)))]) [0, 1, 2, 3] rfl ?_
      exact lp_o hf K
    · replace hf := if_f c3 hf
      refine k_iconst (pc' := 21) h dX6_soursBy_20 rfl ci_1 ?_
      refine k_goto (tgt := 25) h dX6_soursBy_21 rfl ?_
      refine k_iadd (pc' := 26) h dX6_soursBy_25 rfl ?_
      obtain ⟨y5, hy5, hf⟩ := lw_s hf
      refine k_eqi hy5 ?_
      refine k_istore_n (lv' := [(0, .ref (al (oM G) 0)), (1, .int p1), (2, .int y5), (3, .int v3)]) (pc' := 27) h dX6_soursBy_26 rfl rfl (Nat.le_of_ble_eq_true rfl) [1, 2, 0, 3] rfl ?_
      refine k_iinc (lv' := [(0, .ref (al (oM G) 0)), (1, .int p1), (2, .int y5), (3, .int (v3 + (1 : Int32)))]) (pc' := 30) h dX6_soursBy_27 rfl 3 rfl (congrArg (fun z => v3 + z) ci_1) (Nat.le_of_ble_eq_true rfl) [1, 2, 3, 0] rfl ?_
      refine k_goto (tgt := 4) h dX6_soursBy_30 rfl ?_
      refine k_sub (lv' := [(0, .ref (al (oM G) 0)), (1, .int p1), (2, .int y5), (3, .int (v3 + (1 : Int32)))]) [0, 1, 2, 3] rfl ?_
      exact lp_o hf K
noncomputable def f_X6_soursBy (x0 : Int32) (st : St) : Option (Int32 × St) :=
  ((iter (fun v : Int32 × Int32 × St => l_X6_soursBy_4 x0 v.1 v.2.1 v.2.2) fuel ((0 : Int32), (0 : Int32), st)).bind (fun q6 => (some (q6.1, q6.2.2))))
set_option maxHeartbeats 4000000 in
theorem c_X6_soursBy {G : GG} (l : Launch) (x0 : Int32) (st : St)  (rr : Int32) (st' : St) (hf : f_X6_soursBy x0 st = some (rr, st')) : MM l yX6_soursBy cX6_soursBy 4 (some .int) 4 (oM G) [.ref (al (oM G) 0), .int x0] st (some (.int rr)) st' := by
  refine mk_MM (by decide +kernel) (Nat.le_of_ble_eq_true rfl) (fun X h r => ?_)
  refine k_sub (lv' := [(0, .ref (al (oM G) 0)), (1, .int x0)]) [0, 1] rfl ?_
  unfold f_X6_soursBy at hf
  refine k_iconst (pc' := 1) h dX6_soursBy_0 rfl ci_0 ?_
  refine k_istore_n (lv' := [(0, .ref (al (oM G) 0)), (1, .int x0), (2, .int (0 : Int32))]) (pc' := 2) h dX6_soursBy_1 rfl rfl (Nat.le_of_ble_eq_true rfl) [1, 2, 0] rfl ?_
  refine k_iconst (pc' := 3) h dX6_soursBy_2 rfl ci_0 ?_
  refine k_istore_n (lv' := [(0, .ref (al (oM G) 0)), (1, .int x0), (2, .int (0 : Int32)), (3, .int (0 : Int32))]) (pc' := 4) h dX6_soursBy_3 rfl rfl (Nat.le_of_ble_eq_true rfl) [1, 2, 3, 0] rfl ?_
  obtain ⟨q6, hq6, hf⟩ := bd_s hf
  refine w_X6_soursBy_4 h x0  fuel (0 : Int32) (0 : Int32) st q6 hq6 ?_
  refine k_iload_n (pc' := 34) h dX6_soursBy_33 rfl rfl 2 rfl ?_
  exact k_iret h r dX6_soursBy_34 (lf_i hf)
noncomputable def l_X6_changesIn_2 (p1 : Int32) (v2 : Int32) (st : St) : Option ((Int32 × St) ⊕ ((Int32 × St) ⊕ (Int32 × St))) :=
  (if (10 : Int32) ≤ v2 then (some (.inr (.inr (v2, st)))) else (gd (inb (12 : Int32) 14) ((f_X6_wantsOn p1 ((st.1 14 (12 : Int32).toNatClampNeg) + v2) st).bind (fun q3 => ((f_X6_wantsNow p1 q3.2).bind (fun q4 => (if q3.1 = q4.1 then (some (.inl (v2 + (1 : Int32), q4.2))) else (some (.inr (.inl (v2, q4.2)))))))))))
set_option maxHeartbeats 4000000 in
theorem w_X6_changesIn_2 {G : GG} {X : Cx} (h : Ok X (oM G) cX6_changesIn RX6 3 (RM 3)) {P : Option Value → St → Prop} (r : Rt X (oM G) P (some .int)) (p1 : Int32)  (n : Nat) (v2 : Int32) (st : St) (q : (Int32 × St) ⊕ (Int32 × St)) (hq : iter (fun v : Int32 × St => l_X6_changesIn_2 p1 v.1 v.2) n (v2, st) = some q) (kr : ∀ rs, q = .inl rs → P (some (.int rs.1)) rs.2) (kx : ∀ v : Int32 × St, q = .inr v → Wk X (oM G) 3 v.2 38 [(0, .ref (al (oM G) 0)), (1, .int p1), (2, .int v.1)] []) : Wk X (oM G) 3 st 2 [(0, .ref (al (oM G) 0)), (1, .int p1), (2, .int v2)] [] := by
  refine iter_rule (hd := (fun v : Int32 × St => Wk X (oM G) 3 v.2 2 [(0, .ref (al (oM G) 0)), (1, .int p1), (2, .int v.1)] [])) (ex := (Sum.elim (fun rs : Int32 × St => P (some (.int rs.1)) rs.2) (fun v : Int32 × St => Wk X (oM G) 3 v.2 38 [(0, .ref (al (oM G) 0)), (1, .int p1), (2, .int v.1)] []))) ?_ n (v2, st) q hq (by cases q with
    | inl rs => exact kr rs rfl
    | inr v => exact kx v rfl)
  rintro ⟨v2, st⟩ oo hbv K
  show Wk X (oM G) 3 st 2 [(0, .ref (al (oM G) 0)), (1, .int p1), (2, .int v2)] []
  have hf : l_X6_changesIn_2 p1 v2 st = some oo := hbv
  unfold l_X6_changesIn_2 at hf
  refine k_iload_n (pc' := 3) h dX6_changesIn_2 rfl rfl 2 rfl ?_
  refine k_bipush (pc' := 5) h dX6_changesIn_3 rfl cb_10 ?_
  refine k_icmp_ge (tgt := 38) (pc' := 8) h dX6_changesIn_5 rfl rfl (fun c1 => ?_) (fun c1 => ?_)
  · replace hf := if_t c1 hf
    refine k_sub (lv' := [(0, .ref (al (oM G) 0)), (1, .int p1), (2, .int v2)]) [0, 1, 2] rfl ?_
    exact lp_o hf K
  · replace hf := if_f c1 hf
    refine k_aload_n (pc' := 9) h dX6_changesIn_8 rfl rfl 0 rfl ?_
    refine k_iload_n (pc' := 10) h dX6_changesIn_9 rfl rfl 1 rfl ?_
    refine k_aload_n (pc' := 11) h dX6_changesIn_10 rfl rfl 0 rfl ?_
    refine k_get (v := .ref (al (oM G) 14)) (pc' := 14) h dX6_changesIn_11 rfl bM_mo fl_X6_54 rfl ?_
    refine k_bipush (pc' := 16) h dX6_changesIn_14 rfl cb_12 ?_
    have g2 := gd_1 hf
    replace hf := gd_2 hf
    refine k_iald (pc' := 17) h dX6_changesIn_16 rfl aM_14 g2 ?_
    refine k_iload_n (pc' := 18) h dX6_changesIn_17 rfl rfl 2 rfl ?_
    refine k_iadd (pc' := 19) h dX6_changesIn_18 rfl ?_
    obtain ⟨q3, hq3, hf⟩ := bd_s hf
    refine k_callV (As := [.int p1, .int ((st.1 14 (12 : Int32).toNatClampNeg) + v2)]) (rest := []) (rv := some (.int q3.1)) (st' := q3.2) (stk' := [.int q3.1]) (pc' := 22) h dX6_changesIn_19 rfl ml_X6_148 wc_X6_wantsOn wi_X6_wantsOn ⟨Nat.le_of_ble_eq_true rfl, Nat.le_of_ble_eq_true rfl⟩ bM_mo rfl rfl rfl rfl (Nat.le_of_ble_eq_true rfl) (fun l => c_X6_wantsOn l p1 ((st.1 14 (12 : Int32).toNatClampNeg) + v2) st  _ _ hq3) rfl ?_
    refine k_aload_n (pc' := 23) h dX6_changesIn_22 rfl rfl 0 rfl ?_
    refine k_iload_n (pc' := 24) h dX6_changesIn_23 rfl rfl 1 rfl ?_
    obtain ⟨q4, hq4, hf⟩ := bd_s hf
    refine k_callV (As := [.int p1]) (rest := [.int q3.1]) (rv := some (.int q4.1)) (st' := q4.2) (stk' := [.int q4.1, .int q3.1]) (pc' := 27) h dX6_changesIn_24 rfl ml_X6_157 wc_X6_wantsNow wi_X6_wantsNow ⟨Nat.le_of_ble_eq_true rfl, Nat.le_of_ble_eq_true rfl⟩ bM_mo rfl rfl rfl rfl (Nat.le_of_ble_eq_true rfl) (fun l => c_X6_wantsNow l p1 q3.2  _ _ hq4) rfl ?_
    refine k_icmp_eq (tgt := 32) (pc' := 30) h dX6_changesIn_27 rfl rfl (fun c5 => ?_) (fun c5 => ?_)
    · replace hf := if_t c5 hf
      refine k_iinc (lv' := [(0, .ref (al (oM G) 0)), (1, .int p1), (2, .int (v2 + (1 : Int32)))]) (pc' := 35) h dX6_changesIn_32 rfl 2 rfl (congrArg (fun z => v2 + z) ci_1) (Nat.le_of_ble_eq_true rfl) [1, 2, 0] rfl ?_
      refine k_goto (tgt := 2) h dX6_changesIn_35 rfl ?_
      refine k_sub (lv' := [(0, .ref (al (oM G) 0)), (1, .int p1), (2, .int (v2 + (1 : Int32)))]) [0, 1, 2] rfl ?_
      exact lp_o hf K
    · replace hf := if_f c5 hf
      refine k_iload_n (pc' := 31) h dX6_changesIn_30 rfl rfl 2 rfl ?_
      exact k_iret h r dX6_changesIn_31 (lp_o hf K)
noncomputable def f_X6_changesIn (x0 : Int32) (st : St) : Option (Int32 × St) :=
  ((iter (fun v : Int32 × St => l_X6_changesIn_2 x0 v.1 v.2) fuel ((1 : Int32), st)).bind (fun q6 => Sum.elim (fun rs8 => some rs8) (fun v7 => (some ((-9 : Int32), v7.2))) q6))
set_option maxHeartbeats 4000000 in
theorem c_X6_changesIn {G : GG} (l : Launch) (x0 : Int32) (st : St)  (rr : Int32) (st' : St) (hf : f_X6_changesIn x0 st = some (rr, st')) : MM l yX6_changesIn cX6_changesIn 3 (some .int) 3 (oM G) [.ref (al (oM G) 0), .int x0] st (some (.int rr)) st' := by
  refine mk_MM (by decide +kernel) (Nat.le_of_ble_eq_true rfl) (fun X h r => ?_)
  refine k_sub (lv' := [(0, .ref (al (oM G) 0)), (1, .int x0)]) [0, 1] rfl ?_
  unfold f_X6_changesIn at hf
  refine k_iconst (pc' := 1) h dX6_changesIn_0 rfl ci_1 ?_
  refine k_istore_n (lv' := [(0, .ref (al (oM G) 0)), (1, .int x0), (2, .int (1 : Int32))]) (pc' := 2) h dX6_changesIn_1 rfl rfl (Nat.le_of_ble_eq_true rfl) [1, 2, 0] rfl ?_
  obtain ⟨q6, hq6, hf⟩ := bd_s hf
  refine w_X6_changesIn_2 h r x0  fuel (1 : Int32) st q6 hq6 (fun rs8 ers8 => ?_) (fun v7 ev7 => ?_)
  · subst ers8
    exact lf_i hf
  · subst ev7
    replace hf := sel_r hf
    refine k_bipush (pc' := 40) h dX6_changesIn_38 rfl cb_m9 ?_
    exact k_iret h r dX6_changesIn_40 (lf_i hf)
noncomputable def l_X6_looksLike_4 (p1 : Int32) (v2 : Int32) (v3 : Int32) (st : St) : Option ((Int32 × Int32 × St) ⊕ (Int32 × Int32 × St)) :=
  (if (st.1 0 10) ≤ v3 then (some (.inr (v2, v3, st))) else (if v3 = p1 then (lw (v2 + (0 : Int32)) (fun y3 => (some (.inl (y3, v3 + (1 : Int32), st))))) else (gd (inb v3 6) (gd (inb p1 6) (if (st.1 8 v3.toNatClampNeg) = (st.1 8 p1.toNatClampNeg) then (gd (inb v3 6) (gd (inb p1 6) (if (st.1 9 v3.toNatClampNeg) = (st.1 9 p1.toNatClampNeg) then (lw (v2 + (1 : Int32)) (fun y12 => (some (.inl (y12, v3 + (1 : Int32), st))))) else (lw (v2 + (0 : Int32)) (fun y11 => (some (.inl (y11, v3 + (1 : Int32), st)))))))) else (lw (v2 + (0 : Int32)) (fun y7 => (some (.inl (y7, v3 + (1 : Int32), st))))))))))
set_option maxHeartbeats 4000000 in
theorem w_X6_looksLike_4 {G : GG} {X : Cx} (h : Ok X (oM G) cX6_looksLike RX6 4 (RM 0))  (p1 : Int32)  (n : Nat) (v2 : Int32) (v3 : Int32) (st : St) (q : Int32 × Int32 × St) (hq : iter (fun v : Int32 × Int32 × St => l_X6_looksLike_4 p1 v.1 v.2.1 v.2.2) n (v2, v3, st) = some q) (kx : Wk X (oM G) 4 q.2.2 61 [(0, .ref (al (oM G) 0)), (1, .int p1), (2, .int q.1), (3, .int q.2.1)] []) : Wk X (oM G) 4 st 4 [(0, .ref (al (oM G) 0)), (1, .int p1), (2, .int v2), (3, .int v3)] [] := by
  refine iter_rule (hd := (fun v : Int32 × Int32 × St => Wk X (oM G) 4 v.2.2 4 [(0, .ref (al (oM G) 0)), (1, .int p1), (2, .int v.1), (3, .int v.2.1)] [])) (ex := (fun v : Int32 × Int32 × St => Wk X (oM G) 4 v.2.2 61 [(0, .ref (al (oM G) 0)), (1, .int p1), (2, .int v.1), (3, .int v.2.1)] [])) ?_ n (v2, v3, st) q hq kx
  rintro ⟨v2, v3, st⟩ oo hbv K
  show Wk X (oM G) 4 st 4 [(0, .ref (al (oM G) 0)), (1, .int p1), (2, .int v2), (3, .int v3)] []
  have hf : l_X6_looksLike_4 p1 v2 v3 st = some oo := hbv
  unfold l_X6_looksLike_4 at hf
  refine k_iload_n (pc' := 5) h dX6_looksLike_4 rfl rfl 3 rfl ?_
  refine k_aload_n (pc' := 6) h dX6_looksLike_5 rfl rfl 0 rfl ?_
  refine k_get (v := .int (st.1 0 10)) (pc' := 9) h dX6_looksLike_6 rfl bM_mo fl_X6_135 rfl ?_
  refine k_icmp_ge (tgt := 61) (pc' := 12) h dX6_looksLike_9 rfl rfl (fun c1 => ?_) (fun c1 => ?_)
  · replace hf := if_t c1 hf
    refine k_sub (lv' := [(0, .ref (al (oM G) 0)), (1, .int p1), (2, .int v2), (3, .int v3)]) [0, 1, 2, 3] rfl ?_
    exact lp_o hf K
  · replace hf := if_f c1 hf
    refine k_iload_n (pc' := 13) h dX6_looksLike_12 rfl rfl 2 rfl ?_
    refine k_iload_n (pc' := 14) h dX6_looksLike_13 rfl rfl 3 rfl ?_
    refine k_iload_n (pc' := 15) h dX6_looksLike_14 rfl rfl 1 rfl ?_
    refine k_icmp_eq (tgt := 52) (pc' := 18) h dX6_looksLike_15 rfl rfl (fun c2 => ?_) (fun c2 => ?_)
    · replace hf := if_t c2 hf
      refine k_iconst (pc' := 53) h dX6_looksLike_52 rfl ci_0 ?_
      refine k_iadd (pc' := 54) h dX6_looksLike_53 rfl ?_
      obtain ⟨y3, hy3, hf⟩ := lw_s hf
      refine k_eqi hy3 ?_
      refine k_istore_n (lv' := [(0, .ref (al (oM G) 0)), (1, .int p1), (2, .int y3), (3, .int v3)]) (pc' := 55) h dX6_looksLike_54 rfl rfl (Nat.le_of_ble_eq_true rfl) [1, 2, 0, 3] rfl ?_
      refine k_iinc (lv' := [(0, .ref (al (oM G) 0)), (1, .int p1), (2, .int y3), (3, .int (v3 + (1 : Int32)))]) (pc' := 58) h dX6_looksLike_55 rfl 3 rfl (congrArg (fun z => v3 + z) ci_1) (Nat.le_of_ble_eq_true rfl) [1, 2, 3, 0] rfl ?_
      refine k_goto (tgt := 4) h dX6_looksLike_58 rfl ?_
      refine k_sub (lv' := [(0, .ref (al (oM G) 0)), (1, .int p1), (2, .int y3), (3, .int (v3 + (1 : Int32)))]) [0, 1, 2, 3] rfl ?_
      exact lp_o hf K
    · replace hf := if_f c2 hf
      refine k_aload_n (pc' := 19) h dX6_looksLike_18 rfl rfl 0 rfl ?_
      refine k_get (v := .ref (al (oM G) 8)) (pc' := 22) h dX6_looksLike_19 rfl bM_mo fl_X6_36 rfl ?_
      refine k_iload_n (pc' := 23) h dX6_looksLike_22 rfl rfl 3 rfl ?_
      have g4 := gd_1 hf
      replace hf := gd_2 hf
      refine k_iald (pc' := 24) h dX6_looksLike_23 rfl aM_8 g4 ?_
      refine k_aload_n (pc' := 25) h dX6_looksLike_24 rfl rfl 0 rfl ?_
      refine k_get (v := .ref (al (oM G) 8)) (pc' := 28) h dX6_looksLike_25 rfl bM_mo fl_X6_36 rfl ?_
      refine k_iload_n (pc' := 29) h dX6_looksLike_28 rfl rfl 1 rfl ?_
      have g5 := gd_1 hf
      replace hf := gd_2 hf
      refine k_iald (pc' := 30) h dX6_looksLike_29 rfl aM_8 g5 ?_
      refine k_icmp_ne (tgt := 52) (pc' := 33) h dX6_looksLike_30 rfl rfl (fun c6 => ?_) (fun c6 => ?_)
      · replace hf := if_f c6 hf
        refine k_iconst (pc' := 53) h dX6_looksLike_52 rfl ci_0 ?_
        refine k_iadd (pc' := 54) h dX6_looksLike_53 rfl ?_
        obtain ⟨y7, hy7, hf⟩ := lw_s hf
        refine k_eqi hy7 ?_
        refine k_istore_n (lv' := [(0, .ref (al (oM G) 0)), (1, .int p1), (2, .int y7), (3, .int v3)]) (pc' := 55) h dX6_looksLike_54 rfl rfl (Nat.le_of_ble_eq_true rfl) [1, 2, 0, 3] rfl ?_
        refine k_iinc (lv' := [(0, .ref (al (oM G) 0)), (1, .int p1), (2, .int y7), (3, .int (v3 + (1 : Int32)))]) (pc' := 58) h dX6_looksLike_55 rfl 3 rfl (congrArg (fun z => v3 + z) ci_1) (Nat.le_of_ble_eq_true rfl) [1, 2, 3, 0] rfl ?_
        refine k_goto (tgt := 4) h dX6_looksLike_58 rfl ?_
        refine k_sub (lv' := [(0, .ref (al (oM G) 0)), (1, .int p1), (2, .int y7), (3, .int (v3 + (1 : Int32)))]) [0, 1, 2, 3] rfl ?_
        exact lp_o hf K
      · replace hf := if_t c6 hf
        refine k_aload_n (pc' := 34) h dX6_looksLike_33 rfl rfl 0 rfl ?_
        refine k_get (v := .ref (al (oM G) 9)) (pc' := 37) h dX6_looksLike_34 rfl bM_mo fl_X6_39 rfl ?_
        refine k_iload_n (pc' := 38) h dX6_looksLike_37 rfl rfl 3 rfl ?_
        have g8 := gd_1 hf
        replace hf := gd_2 hf
        refine k_iald (pc' := 39) h dX6_looksLike_38 rfl aM_9 g8 ?_
        refine k_aload_n (pc' := 40) h dX6_looksLike_39 rfl rfl 0 rfl ?_
        refine k_get (v := .ref (al (oM G) 9)) (pc' := 43) h dX6_looksLike_40 rfl bM_mo fl_X6_39 rfl ?_
        refine k_iload_n (pc' := 44) h dX6_looksLike_43 rfl rfl 1 rfl ?_
        have g9 := gd_1 hf
        replace hf := gd_2 hf
        refine k_iald (pc' := 45) h dX6_looksLike_44 rfl aM_9 g9 ?_
        refine k_icmp_ne (tgt := 52) (pc' := 48) h dX6_looksLike_45 rfl rfl (fun c10 => ?_) (fun c10 => ?_)
        · replace hf := if_f c10 hf
          refine k_iconst (pc' := 53) h dX6_looksLike_52 rfl ci_0 ?_
          refine k_iadd (pc' := 54) h dX6_looksLike_53 rfl ?_
          obtain ⟨y11, hy11, hf⟩ := lw_s hf
          refine k_eqi hy11 ?_
          refine k_istore_n (lv' := [(0, .ref (al (oM G) 0)), (1, .int p1), (2, .int y11), (3, .int v3)]) (pc' := 55) h dX6_looksLike_54 rfl rfl (Nat.le_of_ble_eq_true rfl) [1, 2, 0, 3] rfl ?_
          refine k_iinc (lv' := [(0, .ref (al (oM G) 0)), (1, .int p1), (2, .int y11), (3, .int (v3 + (1 : Int32)))]) (pc' := 58) h dX6_looksLike_55 rfl 3 rfl (congrArg (fun z => v3 + z) ci_1) (Nat.le_of_ble_eq_true rfl) [1, 2, 3, 0] rfl ?_
          refine k_goto (tgt := 4) h dX6_looksLike_58 rfl ?_
          refine k_sub (lv' := [(0, .ref (al (oM G) 0)), (1, .int p1), (2, .int y11), (3, .int (v3 + (1 : Int32)))]) [0, 1, 2, 3] rfl ?_
          exact lp_o hf K
        · replace hf := if_t c10 hf
          refine k_iconst (pc' := 49) h dX6_looksLike_48 rfl ci_1 ?_
          refine k_goto (tgt := 53) h dX6_looksLike_49 rfl ?_
          refine k_iadd (pc' := 54) h dX6_looksLike_53 rfl ?_
          obtain ⟨y12, hy12, hf⟩ := lw_s hf
          refine k_eqi hy12 ?_
          refine k_istore_n (lv' := [(0, .ref (al (oM G) 0)), (1, .int p1), (2, .int y12), (3, .int v3)]) (pc' := 55) h dX6_looksLike_54 rfl rfl (Nat.le_of_ble_eq_true rfl) [1, 2, 0, 3] rfl ?_
          refine k_iinc (lv' := [(0, .ref (al (oM G) 0)), (1, .int p1), (2, .int y12), (3, .int (v3 + (1 : Int32)))]) (pc' := 58) h dX6_looksLike_55 rfl 3 rfl (congrArg (fun z => v3 + z) ci_1) (Nat.le_of_ble_eq_true rfl) [1, 2, 3, 0] rfl ?_
          refine k_goto (tgt := 4) h dX6_looksLike_58 rfl ?_
          refine k_sub (lv' := [(0, .ref (al (oM G) 0)), (1, .int p1), (2, .int y12), (3, .int (v3 + (1 : Int32)))]) [0, 1, 2, 3] rfl ?_
          exact lp_o hf K
noncomputable def f_X6_looksLike (x0 : Int32) (st : St) : Option (Int32 × St) :=
  ((iter (fun v : Int32 × Int32 × St => l_X6_looksLike_4 x0 v.1 v.2.1 v.2.2) fuel ((0 : Int32), (0 : Int32), st)).bind (fun q13 => (some (q13.1, q13.2.2))))
set_option maxHeartbeats 4000000 in
theorem c_X6_looksLike {G : GG} (l : Launch) (x0 : Int32) (st : St)  (rr : Int32) (st' : St) (hf : f_X6_looksLike x0 st = some (rr, st')) : MM l yX6_looksLike cX6_looksLike 4 (some .int) 0 (oM G) [.ref (al (oM G) 0), .int x0] st (some (.int rr)) st' := by
  refine mk_MM (by decide +kernel) (Nat.le_of_ble_eq_true rfl) (fun X h r => ?_)
  refine k_sub (lv' := [(0, .ref (al (oM G) 0)), (1, .int x0)]) [0, 1] rfl ?_
  unfold f_X6_looksLike at hf
  refine k_iconst (pc' := 1) h dX6_looksLike_0 rfl ci_0 ?_
  refine k_istore_n (lv' := [(0, .ref (al (oM G) 0)), (1, .int x0), (2, .int (0 : Int32))]) (pc' := 2) h dX6_looksLike_1 rfl rfl (Nat.le_of_ble_eq_true rfl) [1, 2, 0] rfl ?_
  refine k_iconst (pc' := 3) h dX6_looksLike_2 rfl ci_0 ?_
  refine k_istore_n (lv' := [(0, .ref (al (oM G) 0)), (1, .int x0), (2, .int (0 : Int32)), (3, .int (0 : Int32))]) (pc' := 4) h dX6_looksLike_3 rfl rfl (Nat.le_of_ble_eq_true rfl) [1, 2, 3, 0] rfl ?_
  obtain ⟨q13, hq13, hf⟩ := bd_s hf
  refine w_X6_looksLike_4 h x0  fuel (0 : Int32) (0 : Int32) st q13 hq13 ?_
  refine k_iload_n (pc' := 62) h dX6_looksLike_61 rfl rfl 2 rfl ?_
  exact k_iret h r dX6_looksLike_62 (lf_i hf)
noncomputable def l_X6_othersOf_4 (p1 : Int32) (v2 : Int32) (v3 : Int32) (st : St) : Option ((Int32 × Int32 × St) ⊕ (Int32 × Int32 × St)) :=
  (if (10 : Int32) ≤ v3 then (some (.inr (v2, v3, st))) else ((f_X6_wantsOn p1 v3 st).bind (fun q2 => (gd (inb p1 6) (if q2.1 = (q2.2.1 11 p1.toNatClampNeg) then (lw (v2 + (1 : Int32)) (fun y6 => (some (.inl (y6, v3 + (1 : Int32), q2.2))))) else (lw (v2 + (0 : Int32)) (fun y5 => (some (.inl (y5, v3 + (1 : Int32), q2.2))))))))))
set_option maxHeartbeats 4000000 in
theorem w_X6_othersOf_4 {G : GG} {X : Cx} (h : Ok X (oM G) cX6_othersOf RX6 4 (RM 2))  (p1 : Int32)  (n : Nat) (v2 : Int32) (v3 : Int32) (st : St) (q : Int32 × Int32 × St) (hq : iter (fun v : Int32 × Int32 × St => l_X6_othersOf_4 p1 v.1 v.2.1 v.2.2) n (v2, v3, st) = some q) (kx : Wk X (oM G) 4 q.2.2 39 [(0, .ref (al (oM G) 0)), (1, .int p1), (2, .int q.1), (3, .int q.2.1)] []) : Wk X (oM G) 4 st 4 [(0, .ref (al (oM G) 0)), (1, .int p1), (2, .int v2), (3, .int v3)] [] := by
  refine iter_rule (hd := (fun v : Int32 × Int32 × St => Wk X (oM G) 4 v.2.2 4 [(0, .ref (al (oM G) 0)), (1, .int p1), (2, .int v.1), (3, .int v.2.1)] [])) (ex := (fun v : Int32 × Int32 × St => Wk X (oM G) 4 v.2.2 39 [(0, .ref (al (oM G) 0)), (1, .int p1), (2, .int v.1), (3, .int v.2.1)] [])) ?_ n (v2, v3, st) q hq kx
  rintro ⟨v2, v3, st⟩ oo hbv K
  show Wk X (oM G) 4 st 4 [(0, .ref (al (oM G) 0)), (1, .int p1), (2, .int v2), (3, .int v3)] []
  have hf : l_X6_othersOf_4 p1 v2 v3 st = some oo := hbv
  unfold l_X6_othersOf_4 at hf
  refine k_iload_n (pc' := 5) h dX6_othersOf_4 rfl rfl 3 rfl ?_
  refine k_bipush (pc' := 7) h dX6_othersOf_5 rfl cb_10 ?_
  refine k_icmp_ge (tgt := 39) (pc' := 10) h dX6_othersOf_7 rfl rfl (fun c1 => ?_) (fun c1 => ?_)
  · replace hf := if_t c1 hf
    refine k_sub (lv' := [(0, .ref (al (oM G) 0)), (1, .int p1), (2, .int v2), (3, .int v3)]) [0, 1, 2, 3] rfl ?_
    exact lp_o hf K
  · replace hf := if_f c1 hf
    refine k_iload_n (pc' := 11) h dX6_othersOf_10 rfl rfl 2 rfl ?_
    refine k_aload_n (pc' := 12) h dX6_othersOf_11 rfl rfl 0 rfl ?_
    refine k_iload_n (pc' := 13) h dX6_othersOf_12 rfl rfl 1 rfl ?_
    refine k_iload_n (pc' := 14) h dX6_othersOf_13 rfl rfl 3 rfl ?_
    obtain ⟨q2, hq2, hf⟩ := bd_s hf
    refine k_callV (As := [.int p1, .int v3]) (rest := [.int v2]) (rv := some (.int q2.1)) (st' := q2.2) (stk' := [.int q2.1, .int v2]) (pc' := 17) h dX6_othersOf_14 rfl ml_X6_148 wc_X6_wantsOn wi_X6_wantsOn ⟨Nat.le_of_ble_eq_true rfl, Nat.le_of_ble_eq_true rfl⟩ bM_mo rfl rfl rfl rfl (Nat.le_of_ble_eq_true rfl) (fun l => c_X6_wantsOn l p1 v3 st  _ _ hq2) rfl ?_
    refine k_aload_n (pc' := 18) h dX6_othersOf_17 rfl rfl 0 rfl ?_
    refine k_get (v := .ref (al (oM G) 11)) (pc' := 21) h dX6_othersOf_18 rfl bM_mo fl_X6_45 rfl ?_
    refine k_iload_n (pc' := 22) h dX6_othersOf_21 rfl rfl 1 rfl ?_
    have g3 := gd_1 hf
    replace hf := gd_2 hf
    refine k_iald (pc' := 23) h dX6_othersOf_22 rfl aM_11 g3 ?_
    refine k_icmp_ne (tgt := 30) (pc' := 26) h dX6_othersOf_23 rfl rfl (fun c4 => ?_) (fun c4 => ?_)
    · replace hf := if_f c4 hf
      refine k_iconst (pc' := 31) h dX6_othersOf_30 rfl ci_0 ?_
      refine k_iadd (pc' := 32) h dX6_othersOf_31 rfl ?_
      obtain ⟨y5, hy5, hf⟩ := lw_s hf
      refine k_eqi hy5 ?_
      refine k_istore_n (lv' := [(0, .ref (al (oM G) 0)), (1, .int p1), (2, .int y5), (3, .int v3)]) (pc' := 33) h dX6_othersOf_32 rfl rfl (Nat.le_of_ble_eq_true rfl) [1, 2, 0, 3] rfl ?_
      refine k_iinc (lv' := [(0, .ref (al (oM G) 0)), (1, .int p1), (2, .int y5), (3, .int (v3 + (1 : Int32)))]) (pc' := 36) h dX6_othersOf_33 rfl 3 rfl (congrArg (fun z => v3 + z) ci_1) (Nat.le_of_ble_eq_true rfl) [1, 2, 3, 0] rfl ?_
      refine k_goto (tgt := 4) h dX6_othersOf_36 rfl ?_
      refine k_sub (lv' := [(0, .ref (al (oM G) 0)), (1, .int p1), (2, .int y5), (3, .int (v3 + (1 : Int32)))]) [0, 1, 2, 3] rfl ?_
      exact lp_o hf K
    · replace hf := if_t c4 hf
      refine k_iconst (pc' := 27) h dX6_othersOf_26 rfl ci_1 ?_
      refine k_goto (tgt := 31) h dX6_othersOf_27 rfl ?_
      refine k_iadd (pc' := 32) h dX6_othersOf_31 rfl ?_
      obtain ⟨y6, hy6, hf⟩ := lw_s hf
      refine k_eqi hy6 ?_
      refine k_istore_n (lv' := [(0, .ref (al (oM G) 0)), (1, .int p1), (2, .int y6), (3, .int v3)]) (pc' := 33) h dX6_othersOf_32 rfl rfl (Nat.le_of_ble_eq_true rfl) [1, 2, 0, 3] rfl ?_
      refine k_iinc (lv' := [(0, .ref (al (oM G) 0)), (1, .int p1), (2, .int y6), (3, .int (v3 + (1 : Int32)))]) (pc' := 36) h dX6_othersOf_33 rfl 3 rfl (congrArg (fun z => v3 + z) ci_1) (Nat.le_of_ble_eq_true rfl) [1, 2, 3, 0] rfl ?_
      refine k_goto (tgt := 4) h dX6_othersOf_36 rfl ?_
      refine k_sub (lv' := [(0, .ref (al (oM G) 0)), (1, .int p1), (2, .int y6), (3, .int (v3 + (1 : Int32)))]) [0, 1, 2, 3] rfl ?_
      exact lp_o hf K
noncomputable def f_X6_othersOf (x0 : Int32) (st : St) : Option (Int32 × St) :=
  ((iter (fun v : Int32 × Int32 × St => l_X6_othersOf_4 x0 v.1 v.2.1 v.2.2) fuel ((0 : Int32), (0 : Int32), st)).bind (fun q7 => (some (q7.1, q7.2.2))))
set_option maxHeartbeats 4000000 in
theorem c_X6_othersOf {G : GG} (l : Launch) (x0 : Int32) (st : St)  (rr : Int32) (st' : St) (hf : f_X6_othersOf x0 st = some (rr, st')) : MM l yX6_othersOf cX6_othersOf 4 (some .int) 2 (oM G) [.ref (al (oM G) 0), .int x0] st (some (.int rr)) st' := by
  refine mk_MM (by decide +kernel) (Nat.le_of_ble_eq_true rfl) (fun X h r => ?_)
  refine k_sub (lv' := [(0, .ref (al (oM G) 0)), (1, .int x0)]) [0, 1] rfl ?_
  unfold f_X6_othersOf at hf
  refine k_iconst (pc' := 1) h dX6_othersOf_0 rfl ci_0 ?_
  refine k_istore_n (lv' := [(0, .ref (al (oM G) 0)), (1, .int x0), (2, .int (0 : Int32))]) (pc' := 2) h dX6_othersOf_1 rfl rfl (Nat.le_of_ble_eq_true rfl) [1, 2, 0] rfl ?_
  refine k_iconst (pc' := 3) h dX6_othersOf_2 rfl ci_0 ?_
  refine k_istore_n (lv' := [(0, .ref (al (oM G) 0)), (1, .int x0), (2, .int (0 : Int32)), (3, .int (0 : Int32))]) (pc' := 4) h dX6_othersOf_3 rfl rfl (Nat.le_of_ble_eq_true rfl) [1, 2, 3, 0] rfl ?_
  obtain ⟨q7, hq7, hf⟩ := bd_s hf
  refine w_X6_othersOf_4 h x0  fuel (0 : Int32) (0 : Int32) st q7 hq7 ?_
  refine k_iload_n (pc' := 40) h dX6_othersOf_39 rfl rfl 2 rfl ?_
  exact k_iret h r dX6_othersOf_40 (lf_i hf)
noncomputable def f_X6_mark (x0 : Int32) (x1 : Int32) (st : St) : Option (Int32 × St) :=
  ((f_X6_isRegular x0 st).bind (fun q1 => (if q1.1 = 0 then (some ((-1 : Int32), q1.2)) else ((f_X6_in x1 (1 : Int32) (5 : Int32) q1.2).bind (fun q3 => (if q3.1 = 0 then (some ((-1 : Int32), q3.2)) else (gd (inb x0 6) (lw (q3.2.1 7 x0.toNatClampNeg) (fun y6 => (if y6 = x1 then (if x1 = (1 : Int32) then ((f_X6_soursBy x0 q3.2).bind (fun q9 => (some (q9.1, q9.2)))) else (if x1 = (2 : Int32) then ((f_X6_changesIn x0 q3.2).bind (fun q11 => (some (q11.1, q11.2)))) else (if x1 = (3 : Int32) then ((f_X6_askedIn x0 q3.2).bind (fun q13 => (some (((9 : Int32) + q13.1) + (20 : Int32), q13.2)))) else (if x1 = (4 : Int32) then ((f_X6_looksLike x0 q3.2).bind (fun q15 => (some (q15.1, q15.2)))) else ((f_X6_othersOf x0 q3.2).bind (fun q16 => (some (q16.1, q16.2)))))))) else (if x1 = (1 : Int32) then (if y6 = (4 : Int32) then (if x1 = (1 : Int32) then ((f_X6_soursBy x0 q3.2).bind (fun q33 => (some (q33.1, q33.2)))) else (if x1 = (2 : Int32) then ((f_X6_changesIn x0 q3.2).bind (fun q35 => (some (q35.1, q35.2)))) else (if x1 = (3 : Int32) then ((f_X6_askedIn x0 q3.2).bind (fun q37 => (some (((9 : Int32) + q37.1) + (20 : Int32), q37.2)))) else (if x1 = (4 : Int32) then ((f_X6_looksLike x0 q3.2).bind (fun q39 => (some (q39.1, q39.2)))) else ((f_X6_othersOf x0 q3.2).bind (fun q40 => (some (q40.1, q40.2)))))))) else (if x1 = (2 : Int32) then (if y6 = (5 : Int32) then (if x1 = (1 : Int32) then ((f_X6_soursBy x0 q3.2).bind (fun q45 => (some (q45.1, q45.2)))) else (if x1 = (2 : Int32) then ((f_X6_changesIn x0 q3.2).bind (fun q47 => (some (q47.1, q47.2)))) else (if x1 = (3 : Int32) then ((f_X6_askedIn x0 q3.2).bind (fun q49 => (some (((9 : Int32) + q49.1) + (20 : Int32), q49.2)))) else (if x1 = (4 : Int32) then ((f_X6_looksLike x0 q3.2).bind (fun q51 => (some (q51.1, q51.2)))) else ((f_X6_othersOf x0 q3.2).bind (fun q52 => (some (q52.1, q52.2)))))))) else ((f_X6_meets (3 : Int32) q3.2).bind (fun q53 => (some (q53.1, q53.2))))) else ((f_X6_meets (3 : Int32) q3.2).bind (fun q42 => (some (q42.1, q42.2)))))) else (if x1 = (2 : Int32) then (if y6 = (5 : Int32) then (if x1 = (1 : Int32) then ((f_X6_soursBy x0 q3.2).bind (fun q22 => (some (q22.1, q22.2)))) else (if x1 = (2 : Int32) then ((f_X6_changesIn x0 q3.2).bind (fun q24 => (some (q24.1, q24.2)))) else (if x1 = (3 : Int32) then ((f_X6_askedIn x0 q3.2).bind (fun q26 => (some (((9 : Int32) + q26.1) + (20 : Int32), q26.2)))) else (if x1 = (4 : Int32) then ((f_X6_looksLike x0 q3.2).bind (fun q28 => (some (q28.1, q28.2)))) else ((f_X6_othersOf x0 q3.2).bind (fun q29 => (some (q29.1, q29.2)))))))) else ((f_X6_meets (3 : Int32) q3.2).bind (fun q30 => (some (q30.1, q30.2))))) else ((f_X6_meets (3 : Int32) q3.2).bind (fun q19 => (some (q19.1, q19.2))))))))))))))))
set_option maxHeartbeats 4000000 in
theorem c_X6_mark {G : GG} (l : Launch) (x0 : Int32) (x1 : Int32) (st : St)  (rr : Int32) (st' : St) (hf : f_X6_mark x0 x1 st = some (rr, st')) : MM l yX6_mark cX6_mark 4 (some .int) 5 (oM G) [.ref (al (oM G) 0), .int x0, .int x1] st (some (.int rr)) st' := by
  refine mk_MM (by decide +kernel) (Nat.le_of_ble_eq_true rfl) (fun X h r => ?_)
  refine k_sub (lv' := [(0, .ref (al (oM G) 0)), (1, .int x0), (2, .int x1)]) [0, 1, 2] rfl ?_
  unfold f_X6_mark at hf
  refine k_aload_n (pc' := 1) h dX6_mark_0 rfl rfl 0 rfl ?_
  refine k_iload_n (pc' := 2) h dX6_mark_1 rfl rfl 1 rfl ?_
  obtain ⟨q1, hq1, hf⟩ := bd_s hf
  refine k_callV (As := [.int x0]) (rest := []) (rv := some (.int q1.1)) (st' := q1.2) (stk' := [.int q1.1]) (pc' := 5) h dX6_mark_2 rfl ml_X6_163 wc_X6_isRegular wi_X6_isRegular ⟨Nat.le_of_ble_eq_true rfl, Nat.le_of_ble_eq_true rfl⟩ bM_mo rfl rfl rfl rfl (Nat.le_of_ble_eq_true rfl) (fun l => c_X6_isRegular l x0 st  _ _ hq1) rfl ?_
  refine k_if_eq (tgt := 17) (pc' := 8) h dX6_mark_5 rfl rfl (fun c2 => ?_) (fun c2 => ?_)
  · replace hf := if_t c2 hf
    refine k_iconst (pc' := 18) h dX6_mark_17 rfl ci_m1 ?_
    exact k_iret h r dX6_mark_18 (lf_i hf)
  · replace hf := if_f c2 hf
    refine k_iload_n (pc' := 9) h dX6_mark_8 rfl rfl 2 rfl ?_
    refine k_iconst (pc' := 10) h dX6_mark_9 rfl ci_1 ?_
    refine k_iconst (pc' := 11) h dX6_mark_10 rfl ci_5 ?_
    obtain ⟨q3, hq3, hf⟩ := bd_s hf
    refine k_callS (As := [.int x1, .int (1 : Int32), .int (5 : Int32)]) (rest := []) (rv := some (.int q3.1)) (st' := q3.2) (stk' := [.int q3.1]) (pc' := 14) h dX6_mark_11 rfl ml_X6_83 wc_X6_in ws_X6_in ⟨Nat.le_of_ble_eq_true rfl, Nat.le_of_ble_eq_true rfl⟩ rfl rfl (Nat.le_of_ble_eq_true rfl) (fun l => c_X6_in l x1 (1 : Int32) (5 : Int32) q1.2  _ _ hq3) rfl ?_
    refine k_if_ne (tgt := 19) (pc' := 17) h dX6_mark_14 rfl rfl (fun c4 => ?_) (fun c4 => ?_)
    · replace hf := if_f c4 hf
      refine k_aload_n (pc' := 20) h dX6_mark_19 rfl rfl 0 rfl ?_
      refine k_get (v := .ref (al (oM G) 7)) (pc' := 23) h dX6_mark_20 rfl bM_mo fl_X6_33 rfl ?_
      refine k_iload_n (pc' := 24) h dX6_mark_23 rfl rfl 1 rfl ?_
      have g5 := gd_1 hf
      replace hf := gd_2 hf
      refine k_iald (pc' := 25) h dX6_mark_24 rfl aM_7 g5 ?_
      obtain ⟨y6, hy6, hf⟩ := lw_s hf
      refine k_eqi hy6 ?_
      refine k_istore_n (lv' := [(0, .ref (al (oM G) 0)), (1, .int x0), (2, .int x1), (3, .int y6)]) (pc' := 26) h dX6_mark_25 rfl rfl (Nat.le_of_ble_eq_true rfl) [1, 2, 3, 0] rfl ?_
      refine k_iload_n (pc' := 27) h dX6_mark_26 rfl rfl 3 rfl ?_
      refine k_iload_n (pc' := 28) h dX6_mark_27 rfl rfl 2 rfl ?_
      refine k_icmp_eq (tgt := 57) (pc' := 31) h dX6_mark_28 rfl rfl (fun c7 => ?_) (fun c7 => ?_)
      · replace hf := if_t c7 hf
        refine k_iload_n (pc' := 58) h dX6_mark_57 rfl rfl 2 rfl ?_
        by_cases c8 : x1 = (1 : Int32)
        · replace hf := if_t c8 hf
          refine k_tin (tgt := 88) h 1 dX6_mark_58 (by rw [c8]; decide +kernel) (by decide) (by decide) rfl rfl ?_
          refine k_aload_n (pc' := 89) h dX6_mark_88 rfl rfl 0 rfl ?_
          refine k_iload_n (pc' := 90) h dX6_mark_89 rfl rfl 1 rfl ?_
          obtain ⟨q9, hq9, hf⟩ := bd_s hf
          refine k_callV (As := [.int x0]) (rest := []) (rv := some (.int q9.1)) (st' := q9.2) (stk' := [.int q9.1]) (pc' := 93) h dX6_mark_90 rfl ml_X6_172 wc_X6_soursBy wi_X6_soursBy ⟨Nat.le_of_ble_eq_true rfl, Nat.le_of_ble_eq_true rfl⟩ bM_mo rfl rfl rfl rfl (Nat.le_of_ble_eq_true rfl) (fun l => c_X6_soursBy l x0 q3.2  _ _ hq9) rfl ?_
          exact k_iret h r dX6_mark_93 (lf_i hf)
        replace hf := if_f c8 hf
        by_cases c10 : x1 = (2 : Int32)
        · replace hf := if_t c10 hf
          refine k_tin (tgt := 94) h 2 dX6_mark_58 (by rw [c10]; decide +kernel) (by decide) (by decide) rfl rfl ?_
          refine k_aload_n (pc' := 95) h dX6_mark_94 rfl rfl 0 rfl ?_
          refine k_iload_n (pc' := 96) h dX6_mark_95 rfl rfl 1 rfl ?_
          obtain ⟨q11, hq11, hf⟩ := bd_s hf
          refine k_callV (As := [.int x0]) (rest := []) (rv := some (.int q11.1)) (st' := q11.2) (stk' := [.int q11.1]) (pc' := 99) h dX6_mark_96 rfl ml_X6_175 wc_X6_changesIn wi_X6_changesIn ⟨Nat.le_of_ble_eq_true rfl, Nat.le_of_ble_eq_true rfl⟩ bM_mo rfl rfl rfl rfl (Nat.le_of_ble_eq_true rfl) (fun l => c_X6_changesIn l x0 q3.2  _ _ hq11) rfl ?_
          exact k_iret h r dX6_mark_99 (lf_i hf)
        replace hf := if_f c10 hf
        by_cases c12 : x1 = (3 : Int32)
        · replace hf := if_t c12 hf
          refine k_tin (tgt := 100) h 3 dX6_mark_58 (by rw [c12]; decide +kernel) (by decide) (by decide) rfl rfl ?_
          refine k_bipush (pc' := 102) h dX6_mark_100 rfl cb_9 ?_
          refine k_aload_n (pc' := 103) h dX6_mark_102 rfl rfl 0 rfl ?_
          refine k_iload_n (pc' := 104) h dX6_mark_103 rfl rfl 1 rfl ?_
          obtain ⟨q13, hq13, hf⟩ := bd_s hf
          refine k_callV (As := [.int x0]) (rest := [.int (9 : Int32)]) (rv := some (.int q13.1)) (st' := q13.2) (stk' := [.int q13.1, .int (9 : Int32)]) (pc' := 107) h dX6_mark_104 rfl ml_X6_160 wc_X6_askedIn wi_X6_askedIn ⟨Nat.le_of_ble_eq_true rfl, Nat.le_of_ble_eq_true rfl⟩ bM_mo rfl rfl rfl rfl (Nat.le_of_ble_eq_true rfl) (fun l => c_X6_askedIn l x0 q3.2  _ _ hq13) rfl ?_
          refine k_iadd (pc' := 108) h dX6_mark_107 rfl ?_
          refine k_bipush (pc' := 110) h dX6_mark_108 rfl cb_20 ?_
          refine k_iadd (pc' := 111) h dX6_mark_110 rfl ?_
          exact k_iret h r dX6_mark_111 (lf_i hf)
        replace hf := if_f c12 hf
        by_cases c14 : x1 = (4 : Int32)
        · replace hf := if_t c14 hf
          refine k_tin (tgt := 112) h 4 dX6_mark_58 (by rw [c14]; decide +kernel) (by decide) (by decide) rfl rfl ?_
          refine k_aload_n (pc' := 113) h dX6_mark_112 rfl rfl 0 rfl ?_
          refine k_iload_n (pc' := 114) h dX6_mark_113 rfl rfl 1 rfl ?_
          obtain ⟨q15, hq15, hf⟩ := bd_s hf
          refine k_callV (As := [.int x0]) (rest := []) (rv := some (.int q15.1)) (st' := q15.2) (stk' := [.int q15.1]) (pc' := 117) h dX6_mark_114 rfl ml_X6_178 wc_X6_looksLike wi_X6_looksLike ⟨Nat.le_of_ble_eq_true rfl, Nat.le_of_ble_eq_true rfl⟩ bM_mo rfl rfl rfl rfl (Nat.le_of_ble_eq_true rfl) (fun l => c_X6_looksLike l x0 q3.2  _ _ hq15) rfl ?_
          exact k_iret h r dX6_mark_117 (lf_i hf)
        replace hf := if_f c14 hf
        have hsw : x1.toInt ≠ 1 ∧ x1.toInt ≠ 2 ∧ x1.toInt ≠ 3 ∧ x1.toInt ≠ 4 := ⟨sw_ne c8 (by decide +kernel), sw_ne c10 (by decide +kernel), sw_ne c12 (by decide +kernel), sw_ne c14 (by decide +kernel)⟩
        refine k_tout (tgt := 118) h dX6_mark_58 (by omega) rfl ?_
        refine k_aload_n (pc' := 119) h dX6_mark_118 rfl rfl 0 rfl ?_
        refine k_iload_n (pc' := 120) h dX6_mark_119 rfl rfl 1 rfl ?_
        obtain ⟨q16, hq16, hf⟩ := bd_s hf
        refine k_callV (As := [.int x0]) (rest := []) (rv := some (.int q16.1)) (st' := q16.2) (stk' := [.int q16.1]) (pc' := 123) h dX6_mark_120 rfl ml_X6_181 wc_X6_othersOf wi_X6_othersOf ⟨Nat.le_of_ble_eq_true rfl, Nat.le_of_ble_eq_true rfl⟩ bM_mo rfl rfl rfl rfl (Nat.le_of_ble_eq_true rfl) (fun l => c_X6_othersOf l x0 q3.2  _ _ hq16) rfl ?_
        exact k_iret h r dX6_mark_123 (lf_i hf)
      · replace hf := if_f c7 hf
        refine k_iload_n (pc' := 32) h dX6_mark_31 rfl rfl 2 rfl ?_
        refine k_iconst (pc' := 33) h dX6_mark_32 rfl ci_1 ?_
        refine k_icmp_ne (tgt := 41) (pc' := 36) h dX6_mark_33 rfl rfl (fun c17 => ?_) (fun c17 => ?_)
        · replace hf := if_f c17 hf
          refine k_iload_n (pc' := 42) h dX6_mark_41 rfl rfl 2 rfl ?_
          refine k_iconst (pc' := 43) h dX6_mark_42 rfl ci_2 ?_
          refine k_icmp_ne (tgt := 51) (pc' := 46) h dX6_mark_43 rfl rfl (fun c18 => ?_) (fun c18 => ?_)
          · replace hf := if_f c18 hf
            refine k_aload_n (pc' := 52) h dX6_mark_51 rfl rfl 0 rfl ?_
            refine k_iconst (pc' := 53) h dX6_mark_52 rfl ci_3 ?_
            obtain ⟨q19, hq19, hf⟩ := bd_s hf
            refine k_callV (As := [.int (3 : Int32)]) (rest := []) (rv := some (.int q19.1)) (st' := q19.2) (stk' := [.int q19.1]) (pc' := 56) h dX6_mark_53 rfl ml_X6_97 wc_X6_meets wi_X6_meets ⟨Nat.le_of_ble_eq_true rfl, Nat.le_of_ble_eq_true rfl⟩ bM_mo rfl rfl rfl rfl (Nat.le_of_ble_eq_true rfl) (fun l => c_X6_meets l (3 : Int32) q3.2  _ _ hq19) rfl ?_
            exact k_iret h r dX6_mark_56 (lf_i hf)
          · replace hf := if_t c18 hf
            refine k_iload_n (pc' := 47) h dX6_mark_46 rfl rfl 3 rfl ?_
            refine k_iconst (pc' := 48) h dX6_mark_47 rfl ci_5 ?_
            refine k_icmp_eq (tgt := 57) (pc' := 51) h dX6_mark_48 rfl rfl (fun c20 => ?_) (fun c20 => ?_)
            · replace hf := if_t c20 hf
              refine k_iload_n (pc' := 58) h dX6_mark_57 rfl rfl 2 rfl ?_
              by_cases c21 : x1 = (1 : Int32)
              · replace hf := if_t c21 hf
                refine k_tin (tgt := 88) h 1 dX6_mark_58 (by rw [c21]; decide +kernel) (by decide) (by decide) rfl rfl ?_
                refine k_aload_n (pc' := 89) h dX6_mark_88 rfl rfl 0 rfl ?_
                refine k_iload_n (pc' := 90) h dX6_mark_89 rfl rfl 1 rfl ?_
                obtain ⟨q22, hq22, hf⟩ := bd_s hf
                refine k_callV (As := [.int x0]) (rest := []) (rv := some (.int q22.1)) (st' := q22.2) (stk' := [.int q22.1]) (pc' := 93) h dX6_mark_90 rfl ml_X6_172 wc_X6_soursBy wi_X6_soursBy ⟨Nat.le_of_ble_eq_true rfl, Nat.le_of_ble_eq_true rfl⟩ bM_mo rfl rfl rfl rfl (Nat.le_of_ble_eq_true rfl) (fun l => c_X6_soursBy l x0 q3.2  _ _ hq22) rfl ?_
                exact k_iret h r dX6_mark_93 (lf_i hf)
              replace hf := if_f c21 hf
              by_cases c23 : x1 = (2 : Int32)
              · replace hf := if_t c23 hf
                refine k_tin (tgt := 94) h 2 dX6_mark_58 (by rw [c23]; decide +kernel) (by decide) (by decide) rfl rfl ?_
                refine k_aload_n (pc' := 95) h dX6_mark_94 rfl rfl 0 rfl ?_
                refine k_iload_n (pc' := 96) h dX6_mark_95 rfl rfl 1 rfl ?_
                obtain ⟨q24, hq24, hf⟩ := bd_s hf
                refine k_callV (As := [.int x0]) (rest := []) (rv := some (.int q24.1)) (st' := q24.2) (stk' := [.int q24.1]) (pc' := 99) h dX6_mark_96 rfl ml_X6_175 wc_X6_changesIn wi_X6_changesIn ⟨Nat.le_of_ble_eq_true rfl, Nat.le_of_ble_eq_true rfl⟩ bM_mo rfl rfl rfl rfl (Nat.le_of_ble_eq_true rfl) (fun l => c_X6_changesIn l x0 q3.2  _ _ hq24) rfl ?_
                exact k_iret h r dX6_mark_99 (lf_i hf)
              replace hf := if_f c23 hf
              by_cases c25 : x1 = (3 : Int32)
              · replace hf := if_t c25 hf
                refine k_tin (tgt := 100) h 3 dX6_mark_58 (by rw [c25]; decide +kernel) (by decide) (by decide) rfl rfl ?_
                refine k_bipush (pc' := 102) h dX6_mark_100 rfl cb_9 ?_
                refine k_aload_n (pc' := 103) h dX6_mark_102 rfl rfl 0 rfl ?_
                refine k_iload_n (pc' := 104) h dX6_mark_103 rfl rfl 1 rfl ?_
                obtain ⟨q26, hq26, hf⟩ := bd_s hf
                refine k_callV (As := [.int x0]) (rest := [.int (9 : Int32)]) (rv := some (.int q26.1)) (st' := q26.2) (stk' := [.int q26.1, .int (9 : Int32)]) (pc' := 107) h dX6_mark_104 rfl ml_X6_160 wc_X6_askedIn wi_X6_askedIn ⟨Nat.le_of_ble_eq_true rfl, Nat.le_of_ble_eq_true rfl⟩ bM_mo rfl rfl rfl rfl (Nat.le_of_ble_eq_true rfl) (fun l => c_X6_askedIn l x0 q3.2  _ _ hq26) rfl ?_
                refine k_iadd (pc' := 108) h dX6_mark_107 rfl ?_
                refine k_bipush (pc' := 110) h dX6_mark_108 rfl cb_20 ?_
                refine k_iadd (pc' := 111) h dX6_mark_110 rfl ?_
                exact k_iret h r dX6_mark_111 (lf_i hf)
              replace hf := if_f c25 hf
              by_cases c27 : x1 = (4 : Int32)
              · replace hf := if_t c27 hf
                refine k_tin (tgt := 112) h 4 dX6_mark_58 (by rw [c27]; decide +kernel) (by decide) (by decide) rfl rfl ?_
                refine k_aload_n (pc' := 113) h dX6_mark_112 rfl rfl 0 rfl ?_
                refine k_iload_n (pc' := 114) h dX6_mark_113 rfl rfl 1 rfl ?_
                obtain ⟨q28, hq28, hf⟩ := bd_s hf
                refine k_callV (As := [.int x0]) (rest := []) (rv := some (.int q28.1)) (st' := q28.2) (stk' := [.int q28.1]) (pc' := 117) h dX6_mark_114 rfl ml_X6_178 wc_X6_looksLike wi_X6_looksLike ⟨Nat.le_of_ble_eq_true rfl, Nat.le_of_ble_eq_true rfl⟩ bM_mo rfl rfl rfl rfl (Nat.le_of_ble_eq_true rfl) (fun l => c_X6_looksLike l x0 q3.2  _ _ hq28) rfl ?_
                exact k_iret h r dX6_mark_117 (lf_i hf)
              replace hf := if_f c27 hf
              have hsw : x1.toInt ≠ 1 ∧ x1.toInt ≠ 2 ∧ x1.toInt ≠ 3 ∧ x1.toInt ≠ 4 := ⟨sw_ne c21 (by decide +kernel), sw_ne c23 (by decide +kernel), sw_ne c25 (by decide +kernel), sw_ne c27 (by decide +kernel)⟩
              refine k_tout (tgt := 118) h dX6_mark_58 (by omega) rfl ?_
              refine k_aload_n (pc' := 119) h dX6_mark_118 rfl rfl 0 rfl ?_
              refine k_iload_n (pc' := 120) h dX6_mark_119 rfl rfl 1 rfl ?_
              obtain ⟨q29, hq29, hf⟩ := bd_s hf
              refine k_callV (As := [.int x0]) (rest := []) (rv := some (.int q29.1)) (st' := q29.2) (stk' := [.int q29.1]) (pc' := 123) h dX6_mark_120 rfl ml_X6_181 wc_X6_othersOf wi_X6_othersOf ⟨Nat.le_of_ble_eq_true rfl, Nat.le_of_ble_eq_true rfl⟩ bM_mo rfl rfl rfl rfl (Nat.le_of_ble_eq_true rfl) (fun l => c_X6_othersOf l x0 q3.2  _ _ hq29) rfl ?_
              exact k_iret h r dX6_mark_123 (lf_i hf)
            · replace hf := if_f c20 hf
              refine k_aload_n (pc' := 52) h dX6_mark_51 rfl rfl 0 rfl ?_
              refine k_iconst (pc' := 53) h dX6_mark_52 rfl ci_3 ?_
              obtain ⟨q30, hq30, hf⟩ := bd_s hf
              refine k_callV (As := [.int (3 : Int32)]) (rest := []) (rv := some (.int q30.1)) (st' := q30.2) (stk' := [.int q30.1]) (pc' := 56) h dX6_mark_53 rfl ml_X6_97 wc_X6_meets wi_X6_meets ⟨Nat.le_of_ble_eq_true rfl, Nat.le_of_ble_eq_true rfl⟩ bM_mo rfl rfl rfl rfl (Nat.le_of_ble_eq_true rfl) (fun l => c_X6_meets l (3 : Int32) q3.2  _ _ hq30) rfl ?_
              exact k_iret h r dX6_mark_56 (lf_i hf)
        · replace hf := if_t c17 hf
          refine k_iload_n (pc' := 37) h dX6_mark_36 rfl rfl 3 rfl ?_
          refine k_iconst (pc' := 38) h dX6_mark_37 rfl ci_4 ?_
          refine k_icmp_eq (tgt := 57) (pc' := 41) h dX6_mark_38 rfl rfl (fun c31 => ?_) (fun c31 => ?_)
          · replace hf := if_t c31 hf
            refine k_iload_n (pc' := 58) h dX6_mark_57 rfl rfl 2 rfl ?_
            by_cases c32 : x1 = (1 : Int32)
            · replace hf := if_t c32 hf
              refine k_tin (tgt := 88) h 1 dX6_mark_58 (by rw [c32]; decide +kernel) (by decide) (by decide) rfl rfl ?_
              refine k_aload_n (pc' := 89) h dX6_mark_88 rfl rfl 0 rfl ?_
              refine k_iload_n (pc' := 90) h dX6_mark_89 rfl rfl 1 rfl ?_
              obtain ⟨q33, hq33, hf⟩ := bd_s hf
              refine k_callV (As := [.int x0]) (rest := []) (rv := some (.int q33.1)) (st' := q33.2) (stk' := [.int q33.1]) (pc' := 93) h dX6_mark_90 rfl ml_X6_172 wc_X6_soursBy wi_X6_soursBy ⟨Nat.le_of_ble_eq_true rfl, Nat.le_of_ble_eq_true rfl⟩ bM_mo rfl rfl rfl rfl (Nat.le_of_ble_eq_true rfl) (fun l => c_X6_soursBy l x0 q3.2  _ _ hq33) rfl ?_
              exact k_iret h r dX6_mark_93 (lf_i hf)
            replace hf := if_f c32 hf
            by_cases c34 : x1 = (2 : Int32)
            · replace hf := if_t c34 hf
              refine k_tin (tgt := 94) h 2 dX6_mark_58 (by rw [c34]; decide +kernel) (by decide) (by decide) rfl rfl ?_
              refine k_aload_n (pc' := 95) h dX6_mark_94 rfl rfl 0 rfl ?_
              refine k_iload_n (pc' := 96) h dX6_mark_95 rfl rfl 1 rfl ?_
              obtain ⟨q35, hq35, hf⟩ := bd_s hf
              refine k_callV (As := [.int x0]) (rest := []) (rv := some (.int q35.1)) (st' := q35.2) (stk' := [.int q35.1]) (pc' := 99) h dX6_mark_96 rfl ml_X6_175 wc_X6_changesIn wi_X6_changesIn ⟨Nat.le_of_ble_eq_true rfl, Nat.le_of_ble_eq_true rfl⟩ bM_mo rfl rfl rfl rfl (Nat.le_of_ble_eq_true rfl) (fun l => c_X6_changesIn l x0 q3.2  _ _ hq35) rfl ?_
              exact k_iret h r dX6_mark_99 (lf_i hf)
            replace hf := if_f c34 hf
            by_cases c36 : x1 = (3 : Int32)
            · replace hf := if_t c36 hf
              refine k_tin (tgt := 100) h 3 dX6_mark_58 (by rw [c36]; decide +kernel) (by decide) (by decide) rfl rfl ?_
              refine k_bipush (pc' := 102) h dX6_mark_100 rfl cb_9 ?_
              refine k_aload_n (pc' := 103) h dX6_mark_102 rfl rfl 0 rfl ?_
              refine k_iload_n (pc' := 104) h dX6_mark_103 rfl rfl 1 rfl ?_
              obtain ⟨q37, hq37, hf⟩ := bd_s hf
              refine k_callV (As := [.int x0]) (rest := [.int (9 : Int32)]) (rv := some (.int q37.1)) (st' := q37.2) (stk' := [.int q37.1, .int (9 : Int32)]) (pc' := 107) h dX6_mark_104 rfl ml_X6_160 wc_X6_askedIn wi_X6_askedIn ⟨Nat.le_of_ble_eq_true rfl, Nat.le_of_ble_eq_true rfl⟩ bM_mo rfl rfl rfl rfl (Nat.le_of_ble_eq_true rfl) (fun l => c_X6_askedIn l x0 q3.2  _ _ hq37) rfl ?_
              refine k_iadd (pc' := 108) h dX6_mark_107 rfl ?_
              refine k_bipush (pc' := 110) h dX6_mark_108 rfl cb_20 ?_
              refine k_iadd (pc' := 111) h dX6_mark_110 rfl ?_
              exact k_iret h r dX6_mark_111 (lf_i hf)
            replace hf := if_f c36 hf
            by_cases c38 : x1 = (4 : Int32)
            · replace hf := if_t c38 hf
              refine k_tin (tgt := 112) h 4 dX6_mark_58 (by rw [c38]; decide +kernel) (by decide) (by decide) rfl rfl ?_
              refine k_aload_n (pc' := 113) h dX6_mark_112 rfl rfl 0 rfl ?_
              refine k_iload_n (pc' := 114) h dX6_mark_113 rfl rfl 1 rfl ?_
              obtain ⟨q39, hq39, hf⟩ := bd_s hf
              refine k_callV (As := [.int x0]) (rest := []) (rv := some (.int q39.1)) (st' := q39.2) (stk' := [.int q39.1]) (pc' := 117) h dX6_mark_114 rfl ml_X6_178 wc_X6_looksLike wi_X6_looksLike ⟨Nat.le_of_ble_eq_true rfl, Nat.le_of_ble_eq_true rfl⟩ bM_mo rfl rfl rfl rfl (Nat.le_of_ble_eq_true rfl) (fun l => c_X6_looksLike l x0 q3.2  _ _ hq39) rfl ?_
              exact k_iret h r dX6_mark_117 (lf_i hf)
            replace hf := if_f c38 hf
            have hsw : x1.toInt ≠ 1 ∧ x1.toInt ≠ 2 ∧ x1.toInt ≠ 3 ∧ x1.toInt ≠ 4 := ⟨sw_ne c32 (by decide +kernel), sw_ne c34 (by decide +kernel), sw_ne c36 (by decide +kernel), sw_ne c38 (by decide +kernel)⟩
            refine k_tout (tgt := 118) h dX6_mark_58 (by omega) rfl ?_
            refine k_aload_n (pc' := 119) h dX6_mark_118 rfl rfl 0 rfl ?_
            refine k_iload_n (pc' := 120) h dX6_mark_119 rfl rfl 1 rfl ?_
            obtain ⟨q40, hq40, hf⟩ := bd_s hf
            refine k_callV (As := [.int x0]) (rest := []) (rv := some (.int q40.1)) (st' := q40.2) (stk' := [.int q40.1]) (pc' := 123) h dX6_mark_120 rfl ml_X6_181 wc_X6_othersOf wi_X6_othersOf ⟨Nat.le_of_ble_eq_true rfl, Nat.le_of_ble_eq_true rfl⟩ bM_mo rfl rfl rfl rfl (Nat.le_of_ble_eq_true rfl) (fun l => c_X6_othersOf l x0 q3.2  _ _ hq40) rfl ?_
            exact k_iret h r dX6_mark_123 (lf_i hf)
          · replace hf := if_f c31 hf
            refine k_iload_n (pc' := 42) h dX6_mark_41 rfl rfl 2 rfl ?_
            refine k_iconst (pc' := 43) h dX6_mark_42 rfl ci_2 ?_
            refine k_icmp_ne (tgt := 51) (pc' := 46) h dX6_mark_43 rfl rfl (fun c41 => ?_) (fun c41 => ?_)
            · replace hf := if_f c41 hf
              refine k_aload_n (pc' := 52) h dX6_mark_51 rfl rfl 0 rfl ?_
              refine k_iconst (pc' := 53) h dX6_mark_52 rfl ci_3 ?_
              obtain ⟨q42, hq42, hf⟩ := bd_s hf
              refine k_callV (As := [.int (3 : Int32)]) (rest := []) (rv := some (.int q42.1)) (st' := q42.2) (stk' := [.int q42.1]) (pc' := 56) h dX6_mark_53 rfl ml_X6_97 wc_X6_meets wi_X6_meets ⟨Nat.le_of_ble_eq_true rfl, Nat.le_of_ble_eq_true rfl⟩ bM_mo rfl rfl rfl rfl (Nat.le_of_ble_eq_true rfl) (fun l => c_X6_meets l (3 : Int32) q3.2  _ _ hq42) rfl ?_
              exact k_iret h r dX6_mark_56 (lf_i hf)
            · replace hf := if_t c41 hf
              refine k_iload_n (pc' := 47) h dX6_mark_46 rfl rfl 3 rfl ?_
              refine k_iconst (pc' := 48) h dX6_mark_47 rfl ci_5 ?_
              refine k_icmp_eq (tgt := 57) (pc' := 51) h dX6_mark_48 rfl rfl (fun c43 => ?_) (fun c43 => ?_)
              · replace hf := if_t c43 hf
                refine k_iload_n (pc' := 58) h dX6_mark_57 rfl rfl 2 rfl ?_
                by_cases c44 : x1 = (1 : Int32)
                · replace hf := if_t c44 hf
                  refine k_tin (tgt := 88) h 1 dX6_mark_58 (by rw [c44]; decide +kernel) (by decide) (by decide) rfl rfl ?_
                  refine k_aload_n (pc' := 89) h dX6_mark_88 rfl rfl 0 rfl ?_
                  refine k_iload_n (pc' := 90) h dX6_mark_89 rfl rfl 1 rfl ?_
                  obtain ⟨q45, hq45, hf⟩ := bd_s hf
                  refine k_callV (As := [.int x0]) (rest := []) (rv := some (.int q45.1)) (st' := q45.2) (stk' := [.int q45.1]) (pc' := 93) h dX6_mark_90 rfl ml_X6_172 wc_X6_soursBy wi_X6_soursBy ⟨Nat.le_of_ble_eq_true rfl, Nat.le_of_ble_eq_true rfl⟩ bM_mo rfl rfl rfl rfl (Nat.le_of_ble_eq_true rfl) (fun l => c_X6_soursBy l x0 q3.2  _ _ hq45) rfl ?_
                  exact k_iret h r dX6_mark_93 (lf_i hf)
                replace hf := if_f c44 hf
                by_cases c46 : x1 = (2 : Int32)
                · replace hf := if_t c46 hf
                  refine k_tin (tgt := 94) h 2 dX6_mark_58 (by rw [c46]; decide +kernel) (by decide) (by decide) rfl rfl ?_
                  refine k_aload_n (pc' := 95) h dX6_mark_94 rfl rfl 0 rfl ?_
                  refine k_iload_n (pc' := 96) h dX6_mark_95 rfl rfl 1 rfl ?_
                  obtain ⟨q47, hq47, hf⟩ := bd_s hf
                  refine k_callV (As := [.int x0]) (rest := []) (rv := some (.int q47.1)) (st' := q47.2) (stk' := [.int q47.1]) (pc' := 99) h dX6_mark_96 rfl ml_X6_175 wc_X6_changesIn wi_X6_changesIn ⟨Nat.le_of_ble_eq_true rfl, Nat.le_of_ble_eq_true rfl⟩ bM_mo rfl rfl rfl rfl (Nat.le_of_ble_eq_true rfl) (fun l => c_X6_changesIn l x0 q3.2  _ _ hq47) rfl ?_
                  exact k_iret h r dX6_mark_99 (lf_i hf)
                replace hf := if_f c46 hf
                by_cases c48 : x1 = (3 : Int32)
                · replace hf := if_t c48 hf
                  refine k_tin (tgt := 100) h 3 dX6_mark_58 (by rw [c48]; decide +kernel) (by decide) (by decide) rfl rfl ?_
                  refine k_bipush (pc' := 102) h dX6_mark_100 rfl cb_9 ?_
                  refine k_aload_n (pc' := 103) h dX6_mark_102 rfl rfl 0 rfl ?_
                  refine k_iload_n (pc' := 104) h dX6_mark_103 rfl rfl 1 rfl ?_
                  obtain ⟨q49, hq49, hf⟩ := bd_s hf
                  refine k_callV (As := [.int x0]) (rest := [.int (9 : Int32)]) (rv := some (.int q49.1)) (st' := q49.2) (stk' := [.int q49.1, .int (9 : Int32)]) (pc' := 107) h dX6_mark_104 rfl ml_X6_160 wc_X6_askedIn wi_X6_askedIn ⟨Nat.le_of_ble_eq_true rfl, Nat.le_of_ble_eq_true rfl⟩ bM_mo rfl rfl rfl rfl (Nat.le_of_ble_eq_true rfl) (fun l => c_X6_askedIn l x0 q3.2  _ _ hq49) rfl ?_
                  refine k_iadd (pc' := 108) h dX6_mark_107 rfl ?_
                  refine k_bipush (pc' := 110) h dX6_mark_108 rfl cb_20 ?_
                  refine k_iadd (pc' := 111) h dX6_mark_110 rfl ?_
                  exact k_iret h r dX6_mark_111 (lf_i hf)
                replace hf := if_f c48 hf
                by_cases c50 : x1 = (4 : Int32)
                · replace hf := if_t c50 hf
                  refine k_tin (tgt := 112) h 4 dX6_mark_58 (by rw [c50]; decide +kernel) (by decide) (by decide) rfl rfl ?_
                  refine k_aload_n (pc' := 113) h dX6_mark_112 rfl rfl 0 rfl ?_
                  refine k_iload_n (pc' := 114) h dX6_mark_113 rfl rfl 1 rfl ?_
                  obtain ⟨q51, hq51, hf⟩ := bd_s hf
                  refine k_callV (As := [.int x0]) (rest := []) (rv := some (.int q51.1)) (st' := q51.2) (stk' := [.int q51.1]) (pc' := 117) h dX6_mark_114 rfl ml_X6_178 wc_X6_looksLike wi_X6_looksLike ⟨Nat.le_of_ble_eq_true rfl, Nat.le_of_ble_eq_true rfl⟩ bM_mo rfl rfl rfl rfl (Nat.le_of_ble_eq_true rfl) (fun l => c_X6_looksLike l x0 q3.2  _ _ hq51) rfl ?_
                  exact k_iret h r dX6_mark_117 (lf_i hf)
                replace hf := if_f c50 hf
                have hsw : x1.toInt ≠ 1 ∧ x1.toInt ≠ 2 ∧ x1.toInt ≠ 3 ∧ x1.toInt ≠ 4 := ⟨sw_ne c44 (by decide +kernel), sw_ne c46 (by decide +kernel), sw_ne c48 (by decide +kernel), sw_ne c50 (by decide +kernel)⟩
                refine k_tout (tgt := 118) h dX6_mark_58 (by omega) rfl ?_
                refine k_aload_n (pc' := 119) h dX6_mark_118 rfl rfl 0 rfl ?_
                refine k_iload_n (pc' := 120) h dX6_mark_119 rfl rfl 1 rfl ?_
                obtain ⟨q52, hq52, hf⟩ := bd_s hf
                refine k_callV (As := [.int x0]) (rest := []) (rv := some (.int q52.1)) (st' := q52.2) (stk' := [.int q52.1]) (pc' := 123) h dX6_mark_120 rfl ml_X6_181 wc_X6_othersOf wi_X6_othersOf ⟨Nat.le_of_ble_eq_true rfl, Nat.le_of_ble_eq_true rfl⟩ bM_mo rfl rfl rfl rfl (Nat.le_of_ble_eq_true rfl) (fun l => c_X6_othersOf l x0 q3.2  _ _ hq52) rfl ?_
                exact k_iret h r dX6_mark_123 (lf_i hf)
              · replace hf := if_f c43 hf
                refine k_aload_n (pc' := 52) h dX6_mark_51 rfl rfl 0 rfl ?_
                refine k_iconst (pc' := 53) h dX6_mark_52 rfl ci_3 ?_
                obtain ⟨q53, hq53, hf⟩ := bd_s hf
                refine k_callV (As := [.int (3 : Int32)]) (rest := []) (rv := some (.int q53.1)) (st' := q53.2) (stk' := [.int q53.1]) (pc' := 56) h dX6_mark_53 rfl ml_X6_97 wc_X6_meets wi_X6_meets ⟨Nat.le_of_ble_eq_true rfl, Nat.le_of_ble_eq_true rfl⟩ bM_mo rfl rfl rfl rfl (Nat.le_of_ble_eq_true rfl) (fun l => c_X6_meets l (3 : Int32) q3.2  _ _ hq53) rfl ?_
                exact k_iret h r dX6_mark_56 (lf_i hf)
    · replace hf := if_t c4 hf
      refine k_iconst (pc' := 18) h dX6_mark_17 rfl ci_m1 ?_
      exact k_iret h r dX6_mark_18 (lf_i hf)
