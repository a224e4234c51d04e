set_option maxHeartbeats 4000000 in
set_option maxRecDepth 100000 in
theorem c_X1_init (l : Launch) (D : va_G) (cy : Nat → ClassId) (h0 : Nat) : IM l yX1_init cX1_init 1 1 0 0 D cy h0 (.inr (1, [.int 0, .int 0, .int 0])) (fun w => w = [(h0, .inr (1, [.int 0, .int 0, .int 0]))]) := by
  refine mk_IM (by decide) (by decide) rfl (fun X h hin hr => ?_)
  have h : Oi X D cy cX1_init RX1 1 (RI 1 0 0) := h
  refine i_aload_n h dX1_init_0 rfl rfl 0 rfl ?_
  refine i_oinit h dX1_init_1 rfl oi_X1 (by decide) ?_
  exact i_vret h hr dX1_init_4 rfl
set_option maxHeartbeats 4000000 in
set_option maxRecDepth 100000 in
theorem c_X2_init (l : Launch) (D : va_G) (cy : Nat → ClassId) (h0 : Nat) : IM l yX2_init cX2_init 1 1 0 0 D cy h0 (.inr (2, [.int 0, .int 0, .int 0, .int 0, .int 0, .int 0, .int 0, .int 0])) (fun w => w = [(h0, .inr (2, [.int 0, .int 0, .int 0, .int 0, .int 0, .int 0, .int 0, .int 0]))]) := by
  refine mk_IM (by decide) (by decide) rfl (fun X h hin hr => ?_)
  have h : Oi X D cy cX2_init RX2 1 (RI 1 0 0) := h
  refine i_aload_n h dX2_init_0 rfl rfl 0 rfl ?_
  refine i_oinit h dX2_init_1 rfl oi_X2 (by decide) ?_
  exact i_vret h hr dX2_init_4 rfl
set_option maxHeartbeats 4000000 in
set_option maxRecDepth 100000 in
theorem c_X4_init (l : Launch) (D : va_G) (cy : Nat → ClassId) (h0 : Nat) : IM l yX4_init cX4_init 1 1 2 120 D cy h0 (.inr (4, [.null, .null, .int 0])) (fun w => ∃ a b : Nat, w = [(h0, .inr (4, [.ref a, .ref b, .int 0])), (a, .inl (cy 0, 60, .inl (fun _ => 0))), (b, .inl (cy 0, 60, .inl (fun _ => 0)))]) := by
  refine mk_IM (by decide) (by decide) rfl (fun X h hin hr => ?_)
  have h : Oi X D cy cX4_init RX4 1 (RI 1 2 120) := h
  refine i_aload_n h dX4_init_0 rfl rfl 0 rfl ?_
  refine i_oinit h dX4_init_1 rfl oi_X4 (by decide) ?_
  refine i_aload_n h dX4_init_4 rfl rfl 0 rfl ?_
  refine i_bipush (v := 60) h dX4_init_5 rfl (by decide +kernel) ?_
  refine i_newa (ty := .int) (N := 60) (k := 0) h dX4_init_7 rfl rfl ac_int rfl rfl (fun _ h => h) (by decide) (by decide +kernel) (by decide) rfl rfl (by decide) (fun q1 => ?_)
  refine i_ws (ws' := [(h0, .inr (4, [.null, .null, .int 0])), (q1, .inl (cy 0, 60, .inl (fun _ => 0)))]) rfl ?_
  refine i_putF (ws' := [(h0, .inr (4, [.ref q1, .null, .int 0])), (q1, .inl (cy 0, 60, .inl (fun _ => 0)))]) (q0 := 0) h hin dX4_init_9 rfl rfl ff_X4_9 rfl rfl (Nat.le_of_ble_eq_true rfl) rfl ?_
  refine i_aload_n h dX4_init_12 rfl rfl 0 rfl ?_
  refine i_bipush (v := 60) h dX4_init_13 rfl (by decide +kernel) ?_
  refine i_newa (ty := .int) (N := 60) (k := 0) h dX4_init_15 rfl rfl ac_int rfl rfl (fun _ h => h) (by decide) (by decide +kernel) (by decide) rfl rfl (by decide) (fun q2 => ?_)
  refine i_ws (ws' := [(h0, .inr (4, [.ref q1, .null, .int 0])), (q1, .inl (cy 0, 60, .inl (fun _ => 0))), (q2, .inl (cy 0, 60, .inl (fun _ => 0)))]) rfl ?_
  refine i_putF (ws' := [(h0, .inr (4, [.ref q1, .ref q2, .int 0])), (q1, .inl (cy 0, 60, .inl (fun _ => 0))), (q2, .inl (cy 0, 60, .inl (fun _ => 0)))]) (q0 := 0) h hin dX4_init_17 rfl rfl ff_X4_15 rfl rfl (Nat.le_of_ble_eq_true rfl) rfl ?_
  exact i_vret h hr dX4_init_20 ⟨_, _, rfl⟩
set_option maxHeartbeats 4000000 in
set_option maxRecDepth 100000 in
theorem c_X0_init (l : Launch) (D : va_G) (cy : Nat → ClassId) (h0 : Nat) : IM l yX0_init cX0_init 1 2 4 129 D cy h0 (.inr (0, [.null, .null, .int 0])) (fun w => ∃ a b c d : Nat, w = [(h0, .inr (0, [.ref a, .ref b, .int 0])), (a, .inl (cy 0, 6, .inl (fun _ => 0))), (b, .inr (4, [.ref c, .ref d, .int 0])), (c, .inl (cy 0, 60, .inl (fun _ => 0))), (d, .inl (cy 0, 60, .inl (fun _ => 0)))]) := by
  refine mk_IM (by decide) (by decide) rfl (fun X h hin hr => ?_)
  have h : Oi X D cy cX0_init RX0 1 (RI 2 4 129) := h
  refine i_aload_n h dX0_init_0 rfl rfl 0 rfl ?_
  refine i_oinit h dX0_init_1 rfl oi_X0 (by decide) ?_
  refine i_aload_n h dX0_init_4 rfl rfl 0 rfl ?_
  refine i_bipush (v := 6) h dX0_init_5 rfl (by decide +kernel) ?_
  refine i_newa (ty := .int) (N := 6) (k := 0) h dX0_init_7 rfl rfl ac_int rfl rfl (fun _ h => h) (by decide) (by decide +kernel) (by decide) rfl rfl (by decide) (fun q1 => ?_)
  refine i_ws (ws' := [(h0, .inr (0, [.null, .null, .int 0])), (q1, .inl (cy 0, 6, .inl (fun _ => 0)))]) rfl ?_
  refine i_putF (ws' := [(h0, .inr (0, [.ref q1, .null, .int 0])), (q1, .inl (cy 0, 6, .inl (fun _ => 0)))]) (q0 := 0) h hin dX0_init_9 rfl rfl ff_X0_9 rfl rfl (Nat.le_of_ble_eq_true rfl) rfl ?_
  refine i_aload_n h dX0_init_12 rfl rfl 0 rfl ?_
  refine i_new (fs := [.null, .null, .int 0]) (ty := tyX4) (ci := 4) h dX0_init_13 rfl uw_4 tyX4_ok nw_X0_15 rfl (fun j hj => by rcases (show j = 0 ∨ j = 1 ∨ j = 2 by omega) with rfl | rfl | rfl <;> rfl) rfl rfl (by decide) (fun q2 => ?_)
  refine i_ws (ws' := [(h0, .inr (0, [.ref q1, .null, .int 0])), (q1, .inl (cy 0, 6, .inl (fun _ => 0))), (q2, .inr (4, [.null, .null, .int 0]))]) rfl ?_
  refine i_dup h dX0_init_16 rfl rfl ?_
  refine i_callN (wr := [(h0, .inr (0, [.ref q1, .null, .int 0])), (q1, .inl (cy 0, 6, .inl (fun _ => 0)))]) (isR := [0, 1]) (q0 := 2) h dX0_init_17 rfl (fun h5 => h5.1.2.2.1) wj_X4 (by decide) (fun l => c_X4_init l D cy q2) rfl rfl rfl (by decide) (Nat.le_of_ble_eq_true rfl) rfl rfl (by decide) (fun w1 hw1 => ?_)
  obtain ⟨q3, q4, rfl⟩ := hw1
  refine i_ws (ws' := [(h0, .inr (0, [.ref q1, .null, .int 0])), (q1, .inl (cy 0, 6, .inl (fun _ => 0))), (q2, .inr (4, [.ref q3, .ref q4, .int 0])), (q3, .inl (cy 0, 60, .inl (fun _ => 0))), (q4, .inl (cy 0, 60, .inl (fun _ => 0)))]) rfl ?_
  refine i_putF (ws' := [(h0, .inr (0, [.ref q1, .ref q2, .int 0])), (q1, .inl (cy 0, 6, .inl (fun _ => 0))), (q2, .inr (4, [.ref q3, .ref q4, .int 0])), (q3, .inl (cy 0, 60, .inl (fun _ => 0))), (q4, .inl (cy 0, 60, .inl (fun _ => 0)))]) (q0 := 0) h hin dX0_init_20 rfl rfl ff_X0_18 rfl rfl (Nat.le_of_ble_eq_true rfl) rfl ?_
  exact i_vret h hr dX0_init_23 ⟨_, _, _, _, rfl⟩
set_option maxHeartbeats 4000000 in
set_option maxRecDepth 100000 in
theorem c_X3_init (l : Launch) (D : va_G) (cy : Nat → ClassId) (h0 : Nat) : IM l yX3_init cX3_init 2 2 10 177 D cy h0 (.inr (3, [.null, .null, .int 0, .int 0, .int 0])) (fun w => ∃ a : Nat → Nat, w = [(h0, .inr (3, [.ref (a 1), .ref (a 8), .int 0, .int 0, .int 0])), ((a 1), .inl (cy 3, 6, .inr (.inr (.inr (.inr (fun j => some (a (2 + j)))))))), ((a 2), .inr (2, [.int 0, .int 0, .int 0, .int 0, .int 0, .int 0, .int 0, .int 0])), ((a 3), .inr (2, [.int 0, .int 0, .int 0, .int 0, .int 0, .int 0, .int 0, .int 0])), ((a 4), .inr (2, [.int 0, .int 0, .int 0, .int 0, .int 0, .int 0, .int 0, .int 0])), ((a 5), .inr (2, [.int 0, .int 0, .int 0, .int 0, .int 0, .int 0, .int 0, .int 0])), ((a 6), .inr (2, [.int 0, .int 0, .int 0, .int 0, .int 0, .int 0, .int 0, .int 0])), ((a 7), .inr (2, [.int 0, .int 0, .int 0, .int 0, .int 0, .int 0, .int 0, .int 0])), ((a 8), .inr (4, [.ref (a 9), .ref (a 10), .int 0])), ((a 9), .inl (cy 0, 60, .inl (fun _ => 0))), ((a 10), .inl (cy 0, 60, .inl (fun _ => 0)))]) := by
  refine mk_IM (by decide) (by decide) rfl (fun X h hin hr => ?_)
  have h : Oi X D cy cX3_init RX3 2 (RI 2 10 177) := h
  refine i_aload_n h dX3_init_0 rfl rfl 0 rfl ?_
  refine i_oinit h dX3_init_1 rfl oi_X3 (by decide) ?_
  refine i_aload_n h dX3_init_4 rfl rfl 0 rfl ?_
  refine i_bipush (v := 6) h dX3_init_5 rfl (by decide +kernel) ?_
  refine i_newq (N := 6) (k := 3) h dX3_init_7 rfl cl_X3_9 h.2.2.2.2.2.2.2.1.2.1 rfl (by decide) (by decide +kernel) (by decide) rfl rfl (by decide) (fun q1 => ?_)
  refine i_ws (ws' := [(h0, .inr (3, [.null, .null, .int 0, .int 0, .int 0])), (q1, .inl (cy 3, 6, .inr (.inr (.inr (.inr (fun _ => none))))))]) rfl ?_
  refine i_putF (ws' := [(h0, .inr (3, [.ref q1, .null, .int 0, .int 0, .int 0])), (q1, .inl (cy 3, 6, .inr (.inr (.inr (.inr (fun _ => none))))))]) (q0 := 0) h hin dX3_init_10 rfl rfl ff_X3_11 rfl rfl (Nat.le_of_ble_eq_true rfl) rfl ?_
  refine i_aload_n h dX3_init_13 rfl rfl 0 rfl ?_
  refine i_new (fs := [.null, .null, .int 0]) (ty := tyX4) (ci := 4) h dX3_init_14 rfl uw_4 tyX4_ok nw_X3_17 rfl (fun j hj => by rcases (show j = 0 ∨ j = 1 ∨ j = 2 by omega) with rfl | rfl | rfl <;> rfl) rfl rfl (by decide) (fun q2 => ?_)
  refine i_ws (ws' := [(h0, .inr (3, [.ref q1, .null, .int 0, .int 0, .int 0])), (q1, .inl (cy 3, 6, .inr (.inr (.inr (.inr (fun _ => none)))))), (q2, .inr (4, [.null, .null, .int 0]))]) rfl ?_
  refine i_dup h dX3_init_17 rfl rfl ?_
  refine i_callN (wr := [(h0, .inr (3, [.ref q1, .null, .int 0, .int 0, .int 0])), (q1, .inl (cy 3, 6, .inr (.inr (.inr (.inr (fun _ => none))))))]) (isR := [0, 1]) (q0 := 2) h dX3_init_18 rfl (fun h5 => h5.1.2.2.2.1) wj_X4 (by decide) (fun l => c_X4_init l D cy q2) rfl rfl rfl (by decide) (Nat.le_of_ble_eq_true rfl) rfl rfl (by decide) (fun w1 hw1 => ?_)
  obtain ⟨q3, q4, rfl⟩ := hw1
  refine i_ws (ws' := [(h0, .inr (3, [.ref q1, .null, .int 0, .int 0, .int 0])), (q1, .inl (cy 3, 6, .inr (.inr (.inr (.inr (fun _ => none)))))), (q2, .inr (4, [.ref q3, .ref q4, .int 0])), (q3, .inl (cy 0, 60, .inl (fun _ => 0))), (q4, .inl (cy 0, 60, .inl (fun _ => 0)))]) rfl ?_
  refine i_putF (ws' := [(h0, .inr (3, [.ref q1, .ref q2, .int 0, .int 0, .int 0])), (q1, .inl (cy 3, 6, .inr (.inr (.inr (.inr (fun _ => none)))))), (q2, .inr (4, [.ref q3, .ref q4, .int 0])), (q3, .inl (cy 0, 60, .inl (fun _ => 0))), (q4, .inl (cy 0, 60, .inl (fun _ => 0)))]) (q0 := 0) h hin dX3_init_21 rfl rfl ff_X3_20 rfl rfl (Nat.le_of_ble_eq_true rfl) rfl ?_
  refine i_iconst (v := 0) h dX3_init_24 rfl (by decide +kernel) ?_
  refine i_istore_n (lv' := [(1, .int 0), (0, .ref h0)]) h dX3_init_25 rfl rfl (by decide) [0, 1] rfl ?_
  refine i_iload_n h dX3_init_26 rfl rfl 0 rfl ?_
  refine i_bipush (v := 6) h dX3_init_27 rfl (by decide +kernel) ?_
  refine i_icmp_ge (tgt := 51) h dX3_init_29 rfl (by decide) (fun c9 => absurd c9 (by decide)) (fun _ => ?_)
  refine i_aload_n h dX3_init_32 rfl rfl 1 rfl ?_
  refine i_get (q0 := 0) h dX3_init_33 rfl rfl fl_c_X3_11 rfl ?_
  refine i_iload_n h dX3_init_36 rfl rfl 0 rfl ?_
  refine i_new (fs := [.int 0, .int 0, .int 0, .int 0, .int 0, .int 0, .int 0, .int 0]) (ty := tyX2) (ci := 2) h dX3_init_37 rfl uw_2 tyX2_ok nw_X3_9 rfl (fun j hj => by rcases (show j = 0 ∨ j = 1 ∨ j = 2 ∨ j = 3 ∨ j = 4 ∨ j = 5 ∨ j = 6 ∨ j = 7 by omega) with rfl | rfl | rfl | rfl | rfl | rfl | rfl | rfl <;> rfl) rfl rfl (by decide) (fun q5 => ?_)
  refine i_ws (ws' := [(h0, .inr (3, [.ref q1, .ref q2, .int 0, .int 0, .int 0])), (q1, .inl (cy 3, 6, .inr (.inr (.inr (.inr (fun _ => none)))))), (q2, .inr (4, [.ref q3, .ref q4, .int 0])), (q3, .inl (cy 0, 60, .inl (fun _ => 0))), (q4, .inl (cy 0, 60, .inl (fun _ => 0))), (q5, .inr (2, [.int 0, .int 0, .int 0, .int 0, .int 0, .int 0, .int 0, .int 0]))]) rfl ?_
  refine i_dup h dX3_init_40 rfl rfl ?_
  refine i_callN (wr := [(h0, .inr (3, [.ref q1, .ref q2, .int 0, .int 0, .int 0])), (q1, .inl (cy 3, 6, .inr (.inr (.inr (.inr (fun _ => none)))))), (q2, .inr (4, [.ref q3, .ref q4, .int 0])), (q3, .inl (cy 0, 60, .inl (fun _ => 0))), (q4, .inl (cy 0, 60, .inl (fun _ => 0)))]) (isR := [0, 1, 2, 3, 4]) (q0 := 5) h dX3_init_41 rfl (fun h5 => h5.1.2.2.2.2) wj_X2 (by decide) (fun l => c_X2_init l D cy q5) rfl rfl rfl (by decide) (Nat.le_of_ble_eq_true rfl) rfl rfl (by decide) (fun w1 hw1 => ?_)
  obtain rfl := hw1
  refine i_ws (ws' := [(h0, .inr (3, [.ref q1, .ref q2, .int 0, .int 0, .int 0])), (q1, .inl (cy 3, 6, .inr (.inr (.inr (.inr (fun _ => none)))))), (q2, .inr (4, [.ref q3, .ref q4, .int 0])), (q3, .inl (cy 0, 60, .inl (fun _ => 0))), (q4, .inl (cy 0, 60, .inl (fun _ => 0))), (q5, .inr (2, [.int 0, .int 0, .int 0, .int 0, .int 0, .int 0, .int 0, .int 0]))]) rfl ?_
  refine i_astqg (q0 := 1) (qk := 5) (ci := 2) (t0 := 3) h dX3_init_44 rfl rfl rfl rfl rfl (inb_in (by decide +kernel)) (fun f6 ef6 => ?_)
  refine i_ws (ws' := [(h0, .inr (3, [.ref q1, .ref q2, .int 0, .int 0, .int 0])), (q1, .inl (cy 3, 6, .inr (.inr (.inr (.inr f6))))), (q2, .inr (4, [.ref q3, .ref q4, .int 0])), (q3, .inl (cy 0, 60, .inl (fun _ => 0))), (q4, .inl (cy 0, 60, .inl (fun _ => 0))), (q5, .inr (2, [.int 0, .int 0, .int 0, .int 0, .int 0, .int 0, .int 0, .int 0]))]) rfl ?_
  refine i_iinc (lv' := [(1, .int 1), (0, .ref h0)]) (v := 1) h dX3_init_45 rfl 0 rfl (by decide +kernel) (by decide) [0, 1] rfl ?_
  refine i_goto (tgt := 26) h dX3_init_48 (by decide) ?_
  refine i_iload_n h dX3_init_26 rfl rfl 0 rfl ?_
  refine i_bipush (v := 6) h dX3_init_27 rfl (by decide +kernel) ?_
  refine i_icmp_ge (tgt := 51) h dX3_init_29 rfl (by decide) (fun c9 => absurd c9 (by decide)) (fun _ => ?_)
  refine i_aload_n h dX3_init_32 rfl rfl 1 rfl ?_
  refine i_get (q0 := 0) h dX3_init_33 rfl rfl fl_c_X3_11 rfl ?_
  refine i_iload_n h dX3_init_36 rfl rfl 0 rfl ?_
  refine i_new (fs := [.int 0, .int 0, .int 0, .int 0, .int 0, .int 0, .int 0, .int 0]) (ty := tyX2) (ci := 2) h dX3_init_37 rfl uw_2 tyX2_ok nw_X3_9 rfl (fun j hj => by rcases (show j = 0 ∨ j = 1 ∨ j = 2 ∨ j = 3 ∨ j = 4 ∨ j = 5 ∨ j = 6 ∨ j = 7 by omega) with rfl | rfl | rfl | rfl | rfl | rfl | rfl | rfl <;> rfl) rfl rfl (by decide) (fun q7 => ?_)
  refine i_ws (ws' := [(h0, .inr (3, [.ref q1, .ref q2, .int 0, .int 0, .int 0])), (q1, .inl (cy 3, 6, .inr (.inr (.inr (.inr f6))))), (q2, .inr (4, [.ref q3, .ref q4, .int 0])), (q3, .inl (cy 0, 60, .inl (fun _ => 0))), (q4, .inl (cy 0, 60, .inl (fun _ => 0))), (q5, .inr (2, [.int 0, .int 0, .int 0, .int 0, .int 0, .int 0, .int 0, .int 0])), (q7, .inr (2, [.int 0, .int 0, .int 0, .int 0, .int 0, .int 0, .int 0, .int 0]))]) rfl ?_
  refine i_dup h dX3_init_40 rfl rfl ?_
  refine i_callN (wr := [(h0, .inr (3, [.ref q1, .ref q2, .int 0, .int 0, .int 0])), (q1, .inl (cy 3, 6, .inr (.inr (.inr (.inr f6))))), (q2, .inr (4, [.ref q3, .ref q4, .int 0])), (q3, .inl (cy 0, 60, .inl (fun _ => 0))), (q4, .inl (cy 0, 60, .inl (fun _ => 0))), (q5, .inr (2, [.int 0, .int 0, .int 0, .int 0, .int 0, .int 0, .int 0, .int 0]))]) (isR := [0, 1, 2, 3, 4, 5]) (q0 := 6) h dX3_init_41 rfl (fun h5 => h5.1.2.2.2.2) wj_X2 (by decide) (fun l => c_X2_init l D cy q7) rfl rfl rfl (by decide) (Nat.le_of_ble_eq_true rfl) rfl rfl (by decide) (fun w1 hw1 => ?_)
  obtain rfl := hw1
  refine i_ws (ws' := [(h0, .inr (3, [.ref q1, .ref q2, .int 0, .int 0, .int 0])), (q1, .inl (cy 3, 6, .inr (.inr (.inr (.inr f6))))), (q2, .inr (4, [.ref q3, .ref q4, .int 0])), (q3, .inl (cy 0, 60, .inl (fun _ => 0))), (q4, .inl (cy 0, 60, .inl (fun _ => 0))), (q5, .inr (2, [.int 0, .int 0, .int 0, .int 0, .int 0, .int 0, .int 0, .int 0])), (q7, .inr (2, [.int 0, .int 0, .int 0, .int 0, .int 0, .int 0, .int 0, .int 0]))]) rfl ?_
  refine i_astqg (q0 := 1) (qk := 6) (ci := 2) (t0 := 3) h dX3_init_44 rfl rfl rfl rfl rfl (inb_in (by decide +kernel)) (fun f8 ef8 => ?_)
  refine i_ws (ws' := [(h0, .inr (3, [.ref q1, .ref q2, .int 0, .int 0, .int 0])), (q1, .inl (cy 3, 6, .inr (.inr (.inr (.inr f8))))), (q2, .inr (4, [.ref q3, .ref q4, .int 0])), (q3, .inl (cy 0, 60, .inl (fun _ => 0))), (q4, .inl (cy 0, 60, .inl (fun _ => 0))), (q5, .inr (2, [.int 0, .int 0, .int 0, .int 0, .int 0, .int 0, .int 0, .int 0])), (q7, .inr (2, [.int 0, .int 0, .int 0, .int 0, .int 0, .int 0, .int 0, .int 0]))]) rfl ?_
  refine i_iinc (lv' := [(1, .int 2), (0, .ref h0)]) (v := 2) h dX3_init_45 rfl 0 rfl (by decide +kernel) (by decide) [0, 1] rfl ?_
  refine i_goto (tgt := 26) h dX3_init_48 (by decide) ?_
  refine i_iload_n h dX3_init_26 rfl rfl 0 rfl ?_
  refine i_bipush (v := 6) h dX3_init_27 rfl (by decide +kernel) ?_
  refine i_icmp_ge (tgt := 51) h dX3_init_29 rfl (by decide) (fun c9 => absurd c9 (by decide)) (fun _ => ?_)
  refine i_aload_n h dX3_init_32 rfl rfl 1 rfl ?_
  refine i_get (q0 := 0) h dX3_init_33 rfl rfl fl_c_X3_11 rfl ?_
  refine i_iload_n h dX3_init_36 rfl rfl 0 rfl ?_
  refine i_new (fs := [.int 0, .int 0, .int 0, .int 0, .int 0, .int 0, .int 0, .int 0]) (ty := tyX2) (ci := 2) h dX3_init_37 rfl uw_2 tyX2_ok nw_X3_9 rfl (fun j hj => by rcases (show j = 0 ∨ j = 1 ∨ j = 2 ∨ j = 3 ∨ j = 4 ∨ j = 5 ∨ j = 6 ∨ j = 7 by omega) with rfl | rfl | rfl | rfl | rfl | rfl | rfl | rfl <;> rfl) rfl rfl (by decide) (fun q9 => ?_)
  refine i_ws (ws' := [(h0, .inr (3, [.ref q1, .ref q2, .int 0, .int 0, .int 0])), (q1, .inl (cy 3, 6, .inr (.inr (.inr (.inr f8))))), (q2, .inr (4, [.ref q3, .ref q4, .int 0])), (q3, .inl (cy 0, 60, .inl (fun _ => 0))), (q4, .inl (cy 0, 60, .inl (fun _ => 0))), (q5, .inr (2, [.int 0, .int 0, .int 0, .int 0, .int 0, .int 0, .int 0, .int 0])), (q7, .inr (2, [.int 0, .int 0, .int 0, .int 0, .int 0, .int 0, .int 0, .int 0])), (q9, .inr (2, [.int 0, .int 0, .int 0, .int 0, .int 0, .int 0, .int 0, .int 0]))]) rfl ?_
  refine i_dup h dX3_init_40 rfl rfl ?_
  refine i_callN (wr := [(h0, .inr (3, [.ref q1, .ref q2, .int 0, .int 0, .int 0])), (q1, .inl (cy 3, 6, .inr (.inr (.inr (.inr f8))))), (q2, .inr (4, [.ref q3, .ref q4, .int 0])), (q3, .inl (cy 0, 60, .inl (fun _ => 0))), (q4, .inl (cy 0, 60, .inl (fun _ => 0))), (q5, .inr (2, [.int 0, .int 0, .int 0, .int 0, .int 0, .int 0, .int 0, .int 0])), (q7, .inr (2, [.int 0, .int 0, .int 0, .int 0, .int 0, .int 0, .int 0, .int 0]))]) (isR := [0, 1, 2, 3, 4, 5, 6]) (q0 := 7) h dX3_init_41 rfl (fun h5 => h5.1.2.2.2.2) wj_X2 (by decide) (fun l => c_X2_init l D cy q9) rfl rfl rfl (by decide) (Nat.le_of_ble_eq_true rfl) rfl rfl (by decide) (fun w1 hw1 => ?_)
  obtain rfl := hw1
  refine i_ws (ws' := [(h0, .inr (3, [.ref q1, .ref q2, .int 0, .int 0, .int 0])), (q1, .inl (cy 3, 6, .inr (.inr (.inr (.inr f8))))), (q2, .inr (4, [.ref q3, .ref q4, .int 0])), (q3, .inl (cy 0, 60, .inl (fun _ => 0))), (q4, .inl (cy 0, 60, .inl (fun _ => 0))), (q5, .inr (2, [.int 0, .int 0, .int 0, .int 0, .int 0, .int 0, .int 0, .int 0])), (q7, .inr (2, [.int 0, .int 0, .int 0, .int 0, .int 0, .int 0, .int 0, .int 0])), (q9, .inr (2, [.int 0, .int 0, .int 0, .int 0, .int 0, .int 0, .int 0, .int 0]))]) rfl ?_
  refine i_astqg (q0 := 1) (qk := 7) (ci := 2) (t0 := 3) h dX3_init_44 rfl rfl rfl rfl rfl (inb_in (by decide +kernel)) (fun f10 ef10 => ?_)
  refine i_ws (ws' := [(h0, .inr (3, [.ref q1, .ref q2, .int 0, .int 0, .int 0])), (q1, .inl (cy 3, 6, .inr (.inr (.inr (.inr f10))))), (q2, .inr (4, [.ref q3, .ref q4, .int 0])), (q3, .inl (cy 0, 60, .inl (fun _ => 0))), (q4, .inl (cy 0, 60, .inl (fun _ => 0))), (q5, .inr (2, [.int 0, .int 0, .int 0, .int 0, .int 0, .int 0, .int 0, .int 0])), (q7, .inr (2, [.int 0, .int 0, .int 0, .int 0, .int 0, .int 0, .int 0, .int 0])), (q9, .inr (2, [.int 0, .int 0, .int 0, .int 0, .int 0, .int 0, .int 0, .int 0]))]) rfl ?_
  refine i_iinc (lv' := [(1, .int 3), (0, .ref h0)]) (v := 3) h dX3_init_45 rfl 0 rfl (by decide +kernel) (by decide) [0, 1] rfl ?_
  refine i_goto (tgt := 26) h dX3_init_48 (by decide) ?_
  refine i_iload_n h dX3_init_26 rfl rfl 0 rfl ?_
  refine i_bipush (v := 6) h dX3_init_27 rfl (by decide +kernel) ?_
  refine i_icmp_ge (tgt := 51) h dX3_init_29 rfl (by decide) (fun c9 => absurd c9 (by decide)) (fun _ => ?_)
  refine i_aload_n h dX3_init_32 rfl rfl 1 rfl ?_
  refine i_get (q0 := 0) h dX3_init_33 rfl rfl fl_c_X3_11 rfl ?_
  refine i_iload_n h dX3_init_36 rfl rfl 0 rfl ?_
  refine i_new (fs := [.int 0, .int 0, .int 0, .int 0, .int 0, .int 0, .int 0, .int 0]) (ty := tyX2) (ci := 2) h dX3_init_37 rfl uw_2 tyX2_ok nw_X3_9 rfl (fun j hj => by rcases (show j = 0 ∨ j = 1 ∨ j = 2 ∨ j = 3 ∨ j = 4 ∨ j = 5 ∨ j = 6 ∨ j = 7 by omega) with rfl | rfl | rfl | rfl | rfl | rfl | rfl | rfl <;> rfl) rfl rfl (by decide) (fun q11 => ?_)
  refine i_ws (ws' := [(h0, .inr (3, [.ref q1, .ref q2, .int 0, .int 0, .int 0])), (q1, .inl (cy 3, 6, .inr (.inr (.inr (.inr f10))))), (q2, .inr (4, [.ref q3, .ref q4, .int 0])), (q3, .inl (cy 0, 60, .inl (fun _ => 0))), (q4, .inl (cy 0, 60, .inl (fun _ => 0))), (q5, .inr (2, [.int 0, .int 0, .int 0, .int 0, .int 0, .int 0, .int 0, .int 0])), (q7, .inr (2, [.int 0, .int 0, .int 0, .int 0, .int 0, .int 0, .int 0, .int 0])), (q9, .inr (2, [.int 0, .int 0, .int 0, .int 0, .int 0, .int 0, .int 0, .int 0])), (q11, .inr (2, [.int 0, .int 0, .int 0, .int 0, .int 0, .int 0, .int 0, .int 0]))]) rfl ?_
  refine i_dup h dX3_init_40 rfl rfl ?_
  refine i_callN (wr := [(h0, .inr (3, [.ref q1, .ref q2, .int 0, .int 0, .int 0])), (q1, .inl (cy 3, 6, .inr (.inr (.inr (.inr f10))))), (q2, .inr (4, [.ref q3, .ref q4, .int 0])), (q3, .inl (cy 0, 60, .inl (fun _ => 0))), (q4, .inl (cy 0, 60, .inl (fun _ => 0))), (q5, .inr (2, [.int 0, .int 0, .int 0, .int 0, .int 0, .int 0, .int 0, .int 0])), (q7, .inr (2, [.int 0, .int 0, .int 0, .int 0, .int 0, .int 0, .int 0, .int 0])), (q9, .inr (2, [.int 0, .int 0, .int 0, .int 0, .int 0, .int 0, .int 0, .int 0]))]) (isR := [0, 1, 2, 3, 4, 5, 6, 7]) (q0 := 8) h dX3_init_41 rfl (fun h5 => h5.1.2.2.2.2) wj_X2 (by decide) (fun l => c_X2_init l D cy q11) rfl rfl rfl (by decide) (Nat.le_of_ble_eq_true rfl) rfl rfl (by decide) (fun w1 hw1 => ?_)
  obtain rfl := hw1
  refine i_ws (ws' := [(h0, .inr (3, [.ref q1, .ref q2, .int 0, .int 0, .int 0])), (q1, .inl (cy 3, 6, .inr (.inr (.inr (.inr f10))))), (q2, .inr (4, [.ref q3, .ref q4, .int 0])), (q3, .inl (cy 0, 60, .inl (fun _ => 0))), (q4, .inl (cy 0, 60, .inl (fun _ => 0))), (q5, .inr (2, [.int 0, .int 0, .int 0, .int 0, .int 0, .int 0, .int 0, .int 0])), (q7, .inr (2, [.int 0, .int 0, .int 0, .int 0, .int 0, .int 0, .int 0, .int 0])), (q9, .inr (2, [.int 0, .int 0, .int 0, .int 0, .int 0, .int 0, .int 0, .int 0])), (q11, .inr (2, [.int 0, .int 0, .int 0, .int 0, .int 0, .int 0, .int 0, .int 0]))]) rfl ?_
  refine i_astqg (q0 := 1) (qk := 8) (ci := 2) (t0 := 3) h dX3_init_44 rfl rfl rfl rfl rfl (inb_in (by decide +kernel)) (fun f12 ef12 => ?_)
  refine i_ws (ws' := [(h0, .inr (3, [.ref q1, .ref q2, .int 0, .int 0, .int 0])), (q1, .inl (cy 3, 6, .inr (.inr (.inr (.inr f12))))), (q2, .inr (4, [.ref q3, .ref q4, .int 0])), (q3, .inl (cy 0, 60, .inl (fun _ => 0))), (q4, .inl (cy 0, 60, .inl (fun _ => 0))), (q5, .inr (2, [.int 0, .int 0, .int 0, .int 0, .int 0, .int 0, .int 0, .int 0])), (q7, .inr (2, [.int 0, .int 0, .int 0, .int 0, .int 0, .int 0, .int 0, .int 0])), (q9, .inr (2, [.int 0, .int 0, .int 0, .int 0, .int 0, .int 0, .int 0, .int 0])), (q11, .inr (2, [.int 0, .int 0, .int 0, .int 0, .int 0, .int 0, .int 0, .int 0]))]) rfl ?_
  refine i_iinc (lv' := [(1, .int 4), (0, .ref h0)]) (v := 4) h dX3_init_45 rfl 0 rfl (by decide +kernel) (by decide) [0, 1] rfl ?_
  refine i_goto (tgt := 26) h dX3_init_48 (by decide) ?_
  refine i_iload_n h dX3_init_26 rfl rfl 0 rfl ?_
  refine i_bipush (v := 6) h dX3_init_27 rfl (by decide +kernel) ?_
  refine i_icmp_ge (tgt := 51) h dX3_init_29 rfl (by decide) (fun c9 => absurd c9 (by decide)) (fun _ => ?_)
  refine i_aload_n h dX3_init_32 rfl rfl 1 rfl ?_
  refine i_get (q0 := 0) h dX3_init_33 rfl rfl fl_c_X3_11 rfl ?_
  refine i_iload_n h dX3_init_36 rfl rfl 0 rfl ?_
  refine i_new (fs := [.int 0, .int 0, .int 0, .int 0, .int 0, .int 0, .int 0, .int 0]) (ty := tyX2) (ci := 2) h dX3_init_37 rfl uw_2 tyX2_ok nw_X3_9 rfl (fun j hj => by rcases (show j = 0 ∨ j = 1 ∨ j = 2 ∨ j = 3 ∨ j = 4 ∨ j = 5 ∨ j = 6 ∨ j = 7 by omega) with rfl | rfl | rfl | rfl | rfl | rfl | rfl | rfl <;> rfl) rfl rfl (by decide) (fun q13 => ?_)
  refine i_ws (ws' := [(h0, .inr (3, [.ref q1, .ref q2, .int 0, .int 0, .int 0])), (q1, .inl (cy 3, 6, .inr (.inr (.inr (.inr f12))))), (q2, .inr (4, [.ref q3, .ref q4, .int 0])), (q3, .inl (cy 0, 60, .inl (fun _ => 0))), (q4, .inl (cy 0, 60, .inl (fun _ => 0))), (q5, .inr (2, [.int 0, .int 0, .int 0, .int 0, .int 0, .int 0, .int 0, .int 0])), (q7, .inr (2, [.int 0, .int 0, .int 0, .int 0, .int 0, .int 0, .int 0, .int 0])), (q9, .inr (2, [.int 0, .int 0, .int 0, .int 0, .int 0, .int 0, .int 0, .int 0])), (q11, .inr (2, [.int 0, .int 0, .int 0, .int 0, .int 0, .int 0, .int 0, .int 0])), (q13, .inr (2, [.int 0, .int 0, .int 0, .int 0, .int 0, .int 0, .int 0, .int 0]))]) rfl ?_
  refine i_dup h dX3_init_40 rfl rfl ?_
  refine i_callN (wr := [(h0, .inr (3, [.ref q1, .ref q2, .int 0, .int 0, .int 0])), (q1, .inl (cy 3, 6, .inr (.inr (.inr (.inr f12))))), (q2, .inr (4, [.ref q3, .ref q4, .int 0])), (q3, .inl (cy 0, 60, .inl (fun _ => 0))), (q4, .inl (cy 0, 60, .inl (fun _ => 0))), (q5, .inr (2, [.int 0, .int 0, .int 0, .int 0, .int 0, .int 0, .int 0, .int 0])), (q7, .inr (2, [.int 0, .int 0, .int 0, .int 0, .int 0, .int 0, .int 0, .int 0])), (q9, .inr (2, [.int 0, .int 0, .int 0, .int 0, .int 0, .int 0, .int 0, .int 0])), (q11, .inr (2, [.int 0, .int 0, .int 0, .int 0, .int 0, .int 0, .int 0, .int 0]))]) (isR := [0, 1, 2, 3, 4, 5, 6, 7, 8]) (q0 := 9) h dX3_init_41 rfl (fun h5 => h5.1.2.2.2.2) wj_X2 (by decide) (fun l => c_X2_init l D cy q13) rfl rfl rfl (by decide) (Nat.le_of_ble_eq_true rfl) rfl rfl (by decide) (fun w1 hw1 => ?_)
  obtain rfl := hw1
  refine i_ws (ws' := [(h0, .inr (3, [.ref q1, .ref q2, .int 0, .int 0, .int 0])), (q1, .inl (cy 3, 6, .inr (.inr (.inr (.inr f12))))), (q2, .inr (4, [.ref q3, .ref q4, .int 0])), (q3, .inl (cy 0, 60, .inl (fun _ => 0))), (q4, .inl (cy 0, 60, .inl (fun _ => 0))), (q5, .inr (2, [.int 0, .int 0, .int 0, .int 0, .int 0, .int 0, .int 0, .int 0])), (q7, .inr (2, [.int 0, .int 0, .int 0, .int 0, .int 0, .int 0, .int 0, .int 0])), (q9, .inr (2, [.int 0, .int 0, .int 0, .int 0, .int 0, .int 0, .int 0, .int 0])), (q11, .inr (2, [.int 0, .int 0, .int 0, .int 0, .int 0, .int 0, .int 0, .int 0])), (q13, .inr (2, [.int 0, .int 0, .int 0, .int 0, .int 0, .int 0, .int 0, .int 0]))]) rfl ?_
  refine i_astqg (q0 := 1) (qk := 9) (ci := 2) (t0 := 3) h dX3_init_44 rfl rfl rfl rfl rfl (inb_in (by decide +kernel)) (fun f14 ef14 => ?_)
  refine i_ws (ws' := [(h0, .inr (3, [.ref q1, .ref q2, .int 0, .int 0, .int 0])), (q1, .inl (cy 3, 6, .inr (.inr (.inr (.inr f14))))), (q2, .inr (4, [.ref q3, .ref q4, .int 0])), (q3, .inl (cy 0, 60, .inl (fun _ => 0))), (q4, .inl (cy 0, 60, .inl (fun _ => 0))), (q5, .inr (2, [.int 0, .int 0, .int 0, .int 0, .int 0, .int 0, .int 0, .int 0])), (q7, .inr (2, [.int 0, .int 0, .int 0, .int 0, .int 0, .int 0, .int 0, .int 0])), (q9, .inr (2, [.int 0, .int 0, .int 0, .int 0, .int 0, .int 0, .int 0, .int 0])), (q11, .inr (2, [.int 0, .int 0, .int 0, .int 0, .int 0, .int 0, .int 0, .int 0])), (q13, .inr (2, [.int 0, .int 0, .int 0, .int 0, .int 0, .int 0, .int 0, .int 0]))]) rfl ?_
  refine i_iinc (lv' := [(1, .int 5), (0, .ref h0)]) (v := 5) h dX3_init_45 rfl 0 rfl (by decide +kernel) (by decide) [0, 1] rfl ?_
  refine i_goto (tgt := 26) h dX3_init_48 (by decide) ?_
  refine i_iload_n h dX3_init_26 rfl rfl 0 rfl ?_
  refine i_bipush (v := 6) h dX3_init_27 rfl (by decide +kernel) ?_
  refine i_icmp_ge (tgt := 51) h dX3_init_29 rfl (by decide) (fun c9 => absurd c9 (by decide)) (fun _ => ?_)
  refine i_aload_n h dX3_init_32 rfl rfl 1 rfl ?_
  refine i_get (q0 := 0) h dX3_init_33 rfl rfl fl_c_X3_11 rfl ?_
  refine i_iload_n h dX3_init_36 rfl rfl 0 rfl ?_
  refine i_new (fs := [.int 0, .int 0, .int 0, .int 0, .int 0, .int 0, .int 0, .int 0]) (ty := tyX2) (ci := 2) h dX3_init_37 rfl uw_2 tyX2_ok nw_X3_9 rfl (fun j hj => by rcases (show j = 0 ∨ j = 1 ∨ j = 2 ∨ j = 3 ∨ j = 4 ∨ j = 5 ∨ j = 6 ∨ j = 7 by omega) with rfl | rfl | rfl | rfl | rfl | rfl | rfl | rfl <;> rfl) rfl rfl (by decide) (fun q15 => ?_)
  refine i_ws (ws' := [(h0, .inr (3, [.ref q1, .ref q2, .int 0, .int 0, .int 0])), (q1, .inl (cy 3, 6, .inr (.inr (.inr (.inr f14))))), (q2, .inr (4, [.ref q3, .ref q4, .int 0])), (q3, .inl (cy 0, 60, .inl (fun _ => 0))), (q4, .inl (cy 0, 60, .inl (fun _ => 0))), (q5, .inr (2, [.int 0, .int 0, .int 0, .int 0, .int 0, .int 0, .int 0, .int 0])), (q7, .inr (2, [.int 0, .int 0, .int 0, .int 0, .int 0, .int 0, .int 0, .int 0])), (q9, .inr (2, [.int 0, .int 0, .int 0, .int 0, .int 0, .int 0, .int 0, .int 0])), (q11, .inr (2, [.int 0, .int 0, .int 0, .int 0, .int 0, .int 0, .int 0, .int 0])), (q13, .inr (2, [.int 0, .int 0, .int 0, .int 0, .int 0, .int 0, .int 0, .int 0])), (q15, .inr (2, [.int 0, .int 0, .int 0, .int 0, .int 0, .int 0, .int 0, .int 0]))]) rfl ?_
  refine i_dup h dX3_init_40 rfl rfl ?_
  refine i_callN (wr := [(h0, .inr (3, [.ref q1, .ref q2, .int 0, .int 0, .int 0])), (q1, .inl (cy 3, 6, .inr (.inr (.inr (.inr f14))))), (q2, .inr (4, [.ref q3, .ref q4, .int 0])), (q3, .inl (cy 0, 60, .inl (fun _ => 0))), (q4, .inl (cy 0, 60, .inl (fun _ => 0))), (q5, .inr (2, [.int 0, .int 0, .int 0, .int 0, .int 0, .int 0, .int 0, .int 0])), (q7, .inr (2, [.int 0, .int 0, .int 0, .int 0, .int 0, .int 0, .int 0, .int 0])), (q9, .inr (2, [.int 0, .int 0, .int 0, .int 0, .int 0, .int 0, .int 0, .int 0])), (q11, .inr (2, [.int 0, .int 0, .int 0, .int 0, .int 0, .int 0, .int 0, .int 0])), (q13, .inr (2, [.int 0, .int 0, .int 0, .int 0, .int 0, .int 0, .int 0, .int 0]))]) (isR := [0, 1, 2, 3, 4, 5, 6, 7, 8, 9]) (q0 := 10) h dX3_init_41 rfl (fun h5 => h5.1.2.2.2.2) wj_X2 (by decide) (fun l => c_X2_init l D cy q15) rfl rfl rfl (by decide) (Nat.le_of_ble_eq_true rfl) rfl rfl (by decide) (fun w1 hw1 => ?_)
  obtain rfl := hw1
  refine i_ws (ws' := [(h0, .inr (3, [.ref q1, .ref q2, .int 0, .int 0, .int 0])), (q1, .inl (cy 3, 6, .inr (.inr (.inr (.inr f14))))), (q2, .inr (4, [.ref q3, .ref q4, .int 0])), (q3, .inl (cy 0, 60, .inl (fun _ => 0))), (q4, .inl (cy 0, 60, .inl (fun _ => 0))), (q5, .inr (2, [.int 0, .int 0, .int 0, .int 0, .int 0, .int 0, .int 0, .int 0])), (q7, .inr (2, [.int 0, .int 0, .int 0, .int 0, .int 0, .int 0, .int 0, .int 0])), (q9, .inr (2, [.int 0, .int 0, .int 0, .int 0, .int 0, .int 0, .int 0, .int 0])), (q11, .inr (2, [.int 0, .int 0, .int 0, .int 0, .int 0, .int 0, .int 0, .int 0])), (q13, .inr (2, [.int 0, .int 0, .int 0, .int 0, .int 0, .int 0, .int 0, .int 0])), (q15, .inr (2, [.int 0, .int 0, .int 0, .int 0, .int 0, .int 0, .int 0, .int 0]))]) rfl ?_
  refine i_astqg (q0 := 1) (qk := 10) (ci := 2) (t0 := 3) h dX3_init_44 rfl rfl rfl rfl rfl (inb_in (by decide +kernel)) (fun f16 ef16 => ?_)
  refine i_ws (ws' := [(h0, .inr (3, [.ref q1, .ref q2, .int 0, .int 0, .int 0])), (q1, .inl (cy 3, 6, .inr (.inr (.inr (.inr f16))))), (q2, .inr (4, [.ref q3, .ref q4, .int 0])), (q3, .inl (cy 0, 60, .inl (fun _ => 0))), (q4, .inl (cy 0, 60, .inl (fun _ => 0))), (q5, .inr (2, [.int 0, .int 0, .int 0, .int 0, .int 0, .int 0, .int 0, .int 0])), (q7, .inr (2, [.int 0, .int 0, .int 0, .int 0, .int 0, .int 0, .int 0, .int 0])), (q9, .inr (2, [.int 0, .int 0, .int 0, .int 0, .int 0, .int 0, .int 0, .int 0])), (q11, .inr (2, [.int 0, .int 0, .int 0, .int 0, .int 0, .int 0, .int 0, .int 0])), (q13, .inr (2, [.int 0, .int 0, .int 0, .int 0, .int 0, .int 0, .int 0, .int 0])), (q15, .inr (2, [.int 0, .int 0, .int 0, .int 0, .int 0, .int 0, .int 0, .int 0]))]) rfl ?_
  refine i_iinc (lv' := [(1, .int 6), (0, .ref h0)]) (v := 6) h dX3_init_45 rfl 0 rfl (by decide +kernel) (by decide) [0, 1] rfl ?_
  refine i_goto (tgt := 26) h dX3_init_48 (by decide) ?_
  refine i_iload_n h dX3_init_26 rfl rfl 0 rfl ?_
  refine i_bipush (v := 6) h dX3_init_27 rfl (by decide +kernel) ?_
  refine i_icmp_ge (tgt := 51) h dX3_init_29 rfl (by decide) (fun _ => ?_) (fun c9 => absurd (by decide) c9)
  refine i_refs (ws' := [(h0, .inr (3, [.ref q1, .ref q2, .int 0, .int 0, .int 0])), (q1, .inl (cy 3, 6, .inr (.inr (.inr (.inr (fun j => some (gA [h0, q1, q5, q7, q9, q11, q13, q15, q2, q3, q4] (2 + j)))))))), (q2, .inr (4, [.ref q3, .ref q4, .int 0])), (q3, .inl (cy 0, 60, .inl (fun _ => 0))), (q4, .inl (cy 0, 60, .inl (fun _ => 0))), (q5, .inr (2, [.int 0, .int 0, .int 0, .int 0, .int 0, .int 0, .int 0, .int 0])), (q7, .inr (2, [.int 0, .int 0, .int 0, .int 0, .int 0, .int 0, .int 0, .int 0])), (q9, .inr (2, [.int 0, .int 0, .int 0, .int 0, .int 0, .int 0, .int 0, .int 0])), (q11, .inr (2, [.int 0, .int 0, .int 0, .int 0, .int 0, .int 0, .int 0, .int 0])), (q13, .inr (2, [.int 0, .int 0, .int 0, .int 0, .int 0, .int 0, .int 0, .int 0])), (q15, .inr (2, [.int 0, .int 0, .int 0, .int 0, .int 0, .int 0, .int 0, .int 0]))]) (q0 := 1) (fun j => some (gA [h0, q1, q5, q7, q9, q11, q13, q15, q2, q3, q4] (2 + j))) rfl (fun j hj => by rw [ef16, ef14, ef12, ef10, ef8, ef6]; rcases (show j = 0 ∨ j = 1 ∨ j = 2 ∨ j = 3 ∨ j = 4 ∨ j = 5 by omega) with rfl | rfl | rfl | rfl | rfl | rfl <;> rfl) rfl ?_
  refine i_perm (ws' := [(h0, .inr (3, [.ref q1, .ref q2, .int 0, .int 0, .int 0])), (q1, .inl (cy 3, 6, .inr (.inr (.inr (.inr (fun j => some (gA [h0, q1, q5, q7, q9, q11, q13, q15, q2, q3, q4] (2 + j)))))))), (q5, .inr (2, [.int 0, .int 0, .int 0, .int 0, .int 0, .int 0, .int 0, .int 0])), (q7, .inr (2, [.int 0, .int 0, .int 0, .int 0, .int 0, .int 0, .int 0, .int 0])), (q9, .inr (2, [.int 0, .int 0, .int 0, .int 0, .int 0, .int 0, .int 0, .int 0])), (q11, .inr (2, [.int 0, .int 0, .int 0, .int 0, .int 0, .int 0, .int 0, .int 0])), (q13, .inr (2, [.int 0, .int 0, .int 0, .int 0, .int 0, .int 0, .int 0, .int 0])), (q15, .inr (2, [.int 0, .int 0, .int 0, .int 0, .int 0, .int 0, .int 0, .int 0])), (q2, .inr (4, [.ref q3, .ref q4, .int 0])), (q3, .inl (cy 0, 60, .inl (fun _ => 0))), (q4, .inl (cy 0, 60, .inl (fun _ => 0)))]) [0, 1, 5, 6, 7, 8, 9, 10, 2, 3, 4] rfl rfl (by decide) ?_
  exact i_vret h hr dX3_init_51 ⟨gA [h0, q1, q5, q7, q9, q11, q13, q15, q2, q3, q4], rfl⟩
