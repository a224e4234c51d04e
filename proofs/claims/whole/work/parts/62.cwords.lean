/-! WORDS OF THE CONSTRUCTORS -/
theorem ac_int : Cond.arrayClass .int ∈ gtb := g_mem 106 (by decide +kernel) rfl
theorem ac_byte : Cond.arrayClass .byte ∈ gtb := g_mem 107 (by decide +kernel) rfl
theorem ac_boolean : Cond.arrayClass .boolean ∈ gtb := g_mem 818 (by decide +kernel) rfl
theorem oi_X0 : Cond.methodLink RX0 3 Lib.objectInit ∈ gtb ∧ Cond.instanceMethod Lib.objectInit ∈ gtb ∧ Cond.code Lib.objectInit ⟨#[0xb1]⟩ 1 none ∈ gtb := ⟨g_mem 200 (by decide +kernel) rfl, g_mem 71 (by decide +kernel) rfl, g_mem 72 (by decide +kernel) rfl⟩
theorem oi_X1 : Cond.methodLink RX1 1 Lib.objectInit ∈ gtb ∧ Cond.instanceMethod Lib.objectInit ∈ gtb ∧ Cond.code Lib.objectInit ⟨#[0xb1]⟩ 1 none ∈ gtb := ⟨g_mem 182 (by decide +kernel) rfl, g_mem 71 (by decide +kernel) rfl, g_mem 72 (by decide +kernel) rfl⟩
theorem oi_X2 : Cond.methodLink RX2 3 Lib.objectInit ∈ gtb ∧ Cond.instanceMethod Lib.objectInit ∈ gtb ∧ Cond.code Lib.objectInit ⟨#[0xb1]⟩ 1 none ∈ gtb := ⟨g_mem 112 (by decide +kernel) rfl, g_mem 71 (by decide +kernel) rfl, g_mem 72 (by decide +kernel) rfl⟩
theorem oi_X3 : Cond.methodLink RX3 3 Lib.objectInit ∈ gtb ∧ Cond.instanceMethod Lib.objectInit ∈ gtb ∧ Cond.code Lib.objectInit ⟨#[0xb1]⟩ 1 none ∈ gtb := ⟨g_mem 82 (by decide +kernel) rfl, g_mem 71 (by decide +kernel) rfl, g_mem 72 (by decide +kernel) rfl⟩
theorem oi_X4 : Cond.methodLink RX4 3 Lib.objectInit ∈ gtb ∧ Cond.instanceMethod Lib.objectInit ∈ gtb ∧ Cond.code Lib.objectInit ⟨#[0xb1]⟩ 1 none ∈ gtb := ⟨g_mem 90 (by decide +kernel) rfl, g_mem 71 (by decide +kernel) rfl, g_mem 72 (by decide +kernel) rfl⟩
theorem oi_X5 : Cond.methodLink RX5 1 Lib.objectInit ∈ gtb ∧ Cond.instanceMethod Lib.objectInit ∈ gtb ∧ Cond.code Lib.objectInit ⟨#[0xb1]⟩ 1 none ∈ gtb := ⟨g_mem 70 (by decide +kernel) rfl, g_mem 71 (by decide +kernel) rfl, g_mem 72 (by decide +kernel) rfl⟩
theorem oi_X6 : Cond.methodLink RX6 1 Lib.objectInit ∈ gtb ∧ Cond.instanceMethod Lib.objectInit ∈ gtb ∧ Cond.code Lib.objectInit ⟨#[0xb1]⟩ 1 none ∈ gtb := ⟨g_mem 717 (by decide +kernel) rfl, g_mem 71 (by decide +kernel) rfl, g_mem 72 (by decide +kernel) rfl⟩
theorem cl_L_7 : Cond.classLink "TheUsualLaw" 7 RX5 ∈ gtb := g_mem 65 (by decide +kernel) rfl
theorem nw_L_7 : Cond.classLink "TheUsualLaw" 7 RX5 ∈ gtb ∧ Cond.instantiable RX5 12 ∈ gtb ∧ Cond.initialized RX5 ∈ gtb := ⟨g_mem 65 (by decide +kernel) rfl, g_mem 66 (by decide +kernel) rfl, g_mem 55 (by decide +kernel) rfl⟩
theorem cl_X5_9 : Cond.classLink RX5 9 ("[" ++ (FieldType.array .int).toString) ∈ gtb := g_mem 73 (by decide +kernel) rfl
theorem cl_X5_18 : Cond.classLink RX5 18 ("[" ++ (FieldType.array .byte).toString) ∈ gtb := g_mem 75 (by decide +kernel) rfl
theorem cl_X5_26 : Cond.classLink RX5 26 RX3 ∈ gtb := g_mem 77 (by decide +kernel) rfl
theorem nw_X5_26 : Cond.classLink RX5 26 RX3 ∈ gtb ∧ Cond.instantiable RX3 5 ∈ gtb ∧ Cond.initialized RX3 ∈ gtb := ⟨g_mem 77 (by decide +kernel) rfl, g_mem 78 (by decide +kernel) rfl, g_mem 56 (by decide +kernel) rfl⟩
theorem cl_X3_9 : Cond.classLink RX3 9 RX2 ∈ gtb := g_mem 83 (by decide +kernel) rfl
theorem nw_X3_9 : Cond.classLink RX3 9 RX2 ∈ gtb ∧ Cond.instantiable RX2 8 ∈ gtb ∧ Cond.initialized RX2 ∈ gtb := ⟨g_mem 83 (by decide +kernel) rfl, g_mem 108 (by decide +kernel) rfl, g_mem 58 (by decide +kernel) rfl⟩
theorem cl_X3_17 : Cond.classLink RX3 17 RX4 ∈ gtb := g_mem 85 (by decide +kernel) rfl
theorem nw_X3_17 : Cond.classLink RX3 17 RX4 ∈ gtb ∧ Cond.instantiable RX4 3 ∈ gtb ∧ Cond.initialized RX4 ∈ gtb := ⟨g_mem 85 (by decide +kernel) rfl, g_mem 86 (by decide +kernel) rfl, g_mem 57 (by decide +kernel) rfl⟩
theorem cl_X5_33 : Cond.classLink RX5 33 RX0 ∈ gtb := g_mem 175 (by decide +kernel) rfl
theorem nw_X5_33 : Cond.classLink RX5 33 RX0 ∈ gtb ∧ Cond.instantiable RX0 3 ∈ gtb ∧ Cond.initialized RX0 ∈ gtb := ⟨g_mem 175 (by decide +kernel) rfl, g_mem 196 (by decide +kernel) rfl, g_mem 60 (by decide +kernel) rfl⟩
theorem cl_X5_39 : Cond.classLink RX5 39 RX1 ∈ gtb := g_mem 177 (by decide +kernel) rfl
theorem nw_X5_39 : Cond.classLink RX5 39 RX1 ∈ gtb ∧ Cond.instantiable RX1 3 ∈ gtb ∧ Cond.initialized RX1 ∈ gtb := ⟨g_mem 177 (by decide +kernel) rfl, g_mem 178 (by decide +kernel) rfl, g_mem 59 (by decide +kernel) rfl⟩
theorem cl_X0_15 : Cond.classLink RX0 15 RX4 ∈ gtb := g_mem 201 (by decide +kernel) rfl
theorem nw_X0_15 : Cond.classLink RX0 15 RX4 ∈ gtb ∧ Cond.instantiable RX4 3 ∈ gtb ∧ Cond.initialized RX4 ∈ gtb := ⟨g_mem 201 (by decide +kernel) rfl, g_mem 86 (by decide +kernel) rfl, g_mem 57 (by decide +kernel) rfl⟩
theorem cl_L_10 : Cond.classLink "TheUsualLaw" 10 RX6 ∈ gtb := g_mem 712 (by decide +kernel) rfl
theorem nw_L_10 : Cond.classLink "TheUsualLaw" 10 RX6 ∈ gtb ∧ Cond.instantiable RX6 33 ∈ gtb ∧ Cond.initialized RX6 ∈ gtb := ⟨g_mem 712 (by decide +kernel) rfl, g_mem 713 (by decide +kernel) rfl, g_mem 61 (by decide +kernel) rfl⟩
theorem wj_X0 : WJ yX0_init cX0_init 1 := ⟨⟨g_mem 60 (by decide +kernel) rfl, g_mem 199 (by decide +kernel) rfl, by decide +kernel, by decide +kernel, by decide +kernel⟩, rfl, g_mem 198 (by decide +kernel) rfl⟩
theorem wj_X1 : WJ yX1_init cX1_init 1 := ⟨⟨g_mem 59 (by decide +kernel) rfl, g_mem 181 (by decide +kernel) rfl, by decide +kernel, by decide +kernel, by decide +kernel⟩, rfl, g_mem 180 (by decide +kernel) rfl⟩
theorem wj_X2 : WJ yX2_init cX2_init 1 := ⟨⟨g_mem 58 (by decide +kernel) rfl, g_mem 111 (by decide +kernel) rfl, by decide +kernel, by decide +kernel, by decide +kernel⟩, rfl, g_mem 110 (by decide +kernel) rfl⟩
theorem wj_X3 : WJ yX3_init cX3_init 2 := ⟨⟨g_mem 56 (by decide +kernel) rfl, g_mem 81 (by decide +kernel) rfl, by decide +kernel, by decide +kernel, by decide +kernel⟩, rfl, g_mem 80 (by decide +kernel) rfl⟩
theorem wj_X4 : WJ yX4_init cX4_init 1 := ⟨⟨g_mem 57 (by decide +kernel) rfl, g_mem 89 (by decide +kernel) rfl, by decide +kernel, by decide +kernel, by decide +kernel⟩, rfl, g_mem 88 (by decide +kernel) rfl⟩
theorem wj_X5 : WJ yX5_init cX5_init 2 := ⟨⟨g_mem 55 (by decide +kernel) rfl, g_mem 69 (by decide +kernel) rfl, by decide +kernel, by decide +kernel, by decide +kernel⟩, rfl, g_mem 68 (by decide +kernel) rfl⟩
theorem wj_X6 : WJ yX6_init cX6_init 2 := ⟨⟨g_mem 61 (by decide +kernel) rfl, g_mem 716 (by decide +kernel) rfl, by decide +kernel, by decide +kernel, by decide +kernel⟩, rfl, g_mem 715 (by decide +kernel) rfl⟩
theorem im_L_9 : Cond.methodLink "TheUsualLaw" 9 yX5_init ∈ gtb := g_mem 67 (by decide +kernel) rfl
theorem im_X5_28 : Cond.methodLink RX5 28 yX3_init ∈ gtb := g_mem 79 (by decide +kernel) rfl
theorem im_L_12 : Cond.methodLink "TheUsualLaw" 12 yX6_init ∈ gtb := g_mem 714 (by decide +kernel) rfl
def gA (l : List Nat) (k : Nat) : Nat := l.getD k 0
/-- a row of references told otherwise -/
theorem arrV_eq {c : ClassId} {n : Nat} {f g : Nat → Value} (h : ∀ j, j < n → f j = g j) : arrV c n f = arrV c n g := by
  unfold arrV
  congr 1
  apply congrArg
  funext j
  exact h j.val j.isLt
theorem i_refs {X : Cx} {D : va_G} {nL : Nat} {ws ws' : va_W} {nc ns pc : Nat} {lv : List (Nat × Value)} {stk : List Value} {q0 a n : Nat} {c : ClassId} {f : Nat → Option Nat} (g : Nat → Option Nat) (ho : ws[q0]? = some (a, .inl (c, n, .inr (.inr (.inr (.inr f)))))) (hfg : ∀ j, j < n → f j = g j) (hw : ws.set q0 (a, .inl (c, n, .inr (.inr (.inr (.inr g))))) = ws') (kk : Wi X D nL ws' nc ns pc lv stk) : Wi X D nL ws nc ns pc lv stk := by
  subst hw
  intro H locs ls hP hD hS hl
  refine kk H locs ls (hP.set hD ho ?_ (fun _ _ => rfl)) (hD.set ho) hS hl
  show H[a]? = some (vp_cell c (n, .inr (.inr (.inr (.inr g)))))
  have h1 : H[a]? = some (vp_cell c (n, .inr (.inr (.inr (.inr f))))) := hP q0 _ ho
  rw [h1, vp_cell_q, vp_cell_q, arrV_eq (fun j hj => by rw [hfg j hj])]
theorem ff_X4_9 : FF RX4 9 4 0 (.array .int) := ⟨RX4, TX4, 3, tyX4, rfl, uw_4, by decide, g_mem 91 (by decide +kernel) rfl, tyX4_ok, nmX4, rfl, by decide +kernel, rfl⟩
theorem ff_X4_15 : FF RX4 15 4 1 (.array .int) := ⟨RX4, TX4, 3, tyX4, rfl, uw_4, by decide, g_mem 93 (by decide +kernel) rfl, tyX4_ok, nmX4, rfl, by decide +kernel, rfl⟩
theorem ff_X0_9 : FF RX0 9 0 0 (.array .int) := ⟨RX0, TX0, 3, tyX0, rfl, uw_0, by decide, g_mem 203 (by decide +kernel) rfl, tyX0_ok, nmX0, rfl, by decide +kernel, rfl⟩
theorem ff_X0_18 : FF RX0 18 0 1 (.object "TheUsual$Turns") := ⟨RX0, TX0, 3, tyX0, rfl, uw_0, by decide, g_mem 204 (by decide +kernel) rfl, tyX0_ok, nmX0, rfl, by decide +kernel, rfl⟩
theorem ff_X3_11 : FF RX3 11 3 0 (.array (.object "TheUsual$Regular")) := ⟨RX3, TX3, 5, tyX3, rfl, uw_3, by decide, g_mem 151 (by decide +kernel) rfl, tyX3_ok, nmX3, rfl, by decide +kernel, rfl⟩
theorem ff_X3_20 : FF RX3 20 3 1 (.object "TheUsual$Turns") := ⟨RX3, TX3, 5, tyX3, rfl, uw_3, by decide, g_mem 154 (by decide +kernel) rfl, tyX3_ok, nmX3, rfl, by decide +kernel, rfl⟩
theorem fl_c_X3_11 : FL RX3 11 3 0 := ⟨RX3, TX3, 5, rfl, uw_3, by decide, g_mem 151 (by decide +kernel) rfl⟩
theorem ff_X5_11 : FF RX5 11 5 0 (.array (.array .int)) := ⟨RX5, TX5, 12, tyX5, rfl, uw_5, by decide, g_mem 215 (by decide +kernel) rfl, tyX5_ok, nmX5, rfl, by decide +kernel, rfl⟩
theorem ff_X5_14 : FF RX5 14 5 1 (.array .int) := ⟨RX5, TX5, 12, tyX5, rfl, uw_5, by decide, g_mem 216 (by decide +kernel) rfl, tyX5_ok, nmX5, rfl, by decide +kernel, rfl⟩
theorem ff_X5_20 : FF RX5 20 5 2 (.array (.array .byte)) := ⟨RX5, TX5, 12, tyX5, rfl, uw_5, by decide, g_mem 217 (by decide +kernel) rfl, tyX5_ok, nmX5, rfl, by decide +kernel, rfl⟩
theorem ff_X5_23 : FF RX5 23 5 3 (.array .int) := ⟨RX5, TX5, 12, tyX5, rfl, uw_5, by decide, g_mem 218 (by decide +kernel) rfl, tyX5_ok, nmX5, rfl, by decide +kernel, rfl⟩
theorem ff_X5_29 : FF RX5 29 5 4 (.object "TheUsual$Shop") := ⟨RX5, TX5, 12, tyX5, rfl, uw_5, by decide, g_mem 219 (by decide +kernel) rfl, tyX5_ok, nmX5, rfl, by decide +kernel, rfl⟩
theorem ff_X5_35 : FF RX5 35 5 5 (.array (.object "TheUsual$Kept")) := ⟨RX5, TX5, 12, tyX5, rfl, uw_5, by decide, g_mem 220 (by decide +kernel) rfl, tyX5_ok, nmX5, rfl, by decide +kernel, rfl⟩
theorem ff_X5_42 : FF RX5 42 5 6 (.object "TheUsual$Line") := ⟨RX5, TX5, 12, tyX5, rfl, uw_5, by decide, g_mem 221 (by decide +kernel) rfl, tyX5_ok, nmX5, rfl, by decide +kernel, rfl⟩
theorem ff_X5_46 : FF RX5 46 5 7 (.array .int) := ⟨RX5, TX5, 12, tyX5, rfl, uw_5, by decide, g_mem 222 (by decide +kernel) rfl, tyX5_ok, nmX5, rfl, by decide +kernel, rfl⟩
theorem fp_c_X5_49 : FP RX5 49 5 8 .int := ⟨RX5, TX5, 12, tyX5, rfl, uw_5, by decide, g_mem 223 (by decide +kernel) rfl, tyX5_ok, nmX5, rfl, by decide +kernel⟩
theorem fp_c_X5_53 : FP RX5 53 5 9 .int := ⟨RX5, TX5, 12, tyX5, rfl, uw_5, by decide, g_mem 224 (by decide +kernel) rfl, tyX5_ok, nmX5, rfl, by decide +kernel⟩
theorem fp_c_X5_56 : FP RX5 56 5 10 .long := ⟨RX5, TX5, 12, tyX5, rfl, uw_5, by decide, g_mem 225 (by decide +kernel) rfl, tyX5_ok, nmX5, rfl, by decide +kernel⟩
theorem fp_c_X5_60 : FP RX5 60 5 11 .long := ⟨RX5, TX5, 12, tyX5, rfl, uw_5, by decide, g_mem 226 (by decide +kernel) rfl, tyX5_ok, nmX5, rfl, by decide +kernel⟩
theorem fl_c_X5_14 : FL RX5 14 5 1 := ⟨RX5, TX5, 12, rfl, uw_5, by decide, g_mem 216 (by decide +kernel) rfl⟩
theorem fl_c_X5_23 : FL RX5 23 5 3 := ⟨RX5, TX5, 12, rfl, uw_5, by decide, g_mem 218 (by decide +kernel) rfl⟩
theorem fl_c_X5_35 : FL RX5 35 5 5 := ⟨RX5, TX5, 12, rfl, uw_5, by decide, g_mem 220 (by decide +kernel) rfl⟩
theorem ff_X6_7 : FF RX6 7 6 1 (.array .int) := ⟨RX6, TX6, 33, tyX6, rfl, uw_6, by decide, g_mem 719 (by decide +kernel) rfl, tyX6_ok, nmX6, rfl, by decide +kernel, rfl⟩
theorem fp_c_X6_13 : FP RX6 13 6 4 .long := ⟨RX6, TX6, 33, tyX6, rfl, uw_6, by decide, g_mem 722 (by decide +kernel) rfl, tyX6_ok, nmX6, rfl, by decide +kernel⟩
theorem ff_X6_17 : FF RX6 17 6 5 (.array .int) := ⟨RX6, TX6, 33, tyX6, rfl, uw_6, by decide, g_mem 723 (by decide +kernel) rfl, tyX6_ok, nmX6, rfl, by decide +kernel, rfl⟩
theorem ff_X6_20 : FF RX6 20 6 6 (.array .int) := ⟨RX6, TX6, 33, tyX6, rfl, uw_6, by decide, g_mem 724 (by decide +kernel) rfl, tyX6_ok, nmX6, rfl, by decide +kernel, rfl⟩
theorem ff_X6_23 : FF RX6 23 6 7 (.array .int) := ⟨RX6, TX6, 33, tyX6, rfl, uw_6, by decide, g_mem 725 (by decide +kernel) rfl, tyX6_ok, nmX6, rfl, by decide +kernel, rfl⟩
theorem ff_X6_26 : FF RX6 26 6 8 (.array .int) := ⟨RX6, TX6, 33, tyX6, rfl, uw_6, by decide, g_mem 726 (by decide +kernel) rfl, tyX6_ok, nmX6, rfl, by decide +kernel, rfl⟩
theorem ff_X6_29 : FF RX6 29 6 9 (.array .byte) := ⟨RX6, TX6, 33, tyX6, rfl, uw_6, by decide, g_mem 727 (by decide +kernel) rfl, tyX6_ok, nmX6, rfl, by decide +kernel, rfl⟩
theorem ff_X6_33 : FF RX6 33 6 11 (.array .int) := ⟨RX6, TX6, 33, tyX6, rfl, uw_6, by decide, g_mem 729 (by decide +kernel) rfl, tyX6_ok, nmX6, rfl, by decide +kernel, rfl⟩
theorem ff_X6_36 : FF RX6 36 6 12 (.array .int) := ⟨RX6, TX6, 33, tyX6, rfl, uw_6, by decide, g_mem 730 (by decide +kernel) rfl, tyX6_ok, nmX6, rfl, by decide +kernel, rfl⟩
theorem ff_X6_39 : FF RX6 39 6 13 (.array .int) := ⟨RX6, TX6, 33, tyX6, rfl, uw_6, by decide, g_mem 731 (by decide +kernel) rfl, tyX6_ok, nmX6, rfl, by decide +kernel, rfl⟩
theorem ff_X6_42 : FF RX6 42 6 14 (.array .int) := ⟨RX6, TX6, 33, tyX6, rfl, uw_6, by decide, g_mem 732 (by decide +kernel) rfl, tyX6_ok, nmX6, rfl, by decide +kernel, rfl⟩
theorem ff_X6_45 : FF RX6 45 6 15 (.array .int) := ⟨RX6, TX6, 33, tyX6, rfl, uw_6, by decide, g_mem 733 (by decide +kernel) rfl, tyX6_ok, nmX6, rfl, by decide +kernel, rfl⟩
theorem ff_X6_48 : FF RX6 48 6 16 (.array .int) := ⟨RX6, TX6, 33, tyX6, rfl, uw_6, by decide, g_mem 734 (by decide +kernel) rfl, tyX6_ok, nmX6, rfl, by decide +kernel, rfl⟩
theorem ff_X6_51 : FF RX6 51 6 19 (.array .int) := ⟨RX6, TX6, 33, tyX6, rfl, uw_6, by decide, g_mem 737 (by decide +kernel) rfl, tyX6_ok, nmX6, rfl, by decide +kernel, rfl⟩
theorem ff_X6_54 : FF RX6 54 6 20 (.array .int) := ⟨RX6, TX6, 33, tyX6, rfl, uw_6, by decide, g_mem 738 (by decide +kernel) rfl, tyX6_ok, nmX6, rfl, by decide +kernel, rfl⟩
theorem ff_X6_57 : FF RX6 57 6 22 (.array .int) := ⟨RX6, TX6, 33, tyX6, rfl, uw_6, by decide, g_mem 740 (by decide +kernel) rfl, tyX6_ok, nmX6, rfl, by decide +kernel, rfl⟩
theorem ff_X6_60 : FF RX6 60 6 23 (.array .boolean) := ⟨RX6, TX6, 33, tyX6, rfl, uw_6, by decide, g_mem 741 (by decide +kernel) rfl, tyX6_ok, nmX6, rfl, by decide +kernel, rfl⟩
theorem ff_X6_64 : FF RX6 64 6 24 (.array .int) := ⟨RX6, TX6, 33, tyX6, rfl, uw_6, by decide, g_mem 742 (by decide +kernel) rfl, tyX6_ok, nmX6, rfl, by decide +kernel, rfl⟩
theorem ff_X6_67 : FF RX6 67 6 25 (.array .int) := ⟨RX6, TX6, 33, tyX6, rfl, uw_6, by decide, g_mem 743 (by decide +kernel) rfl, tyX6_ok, nmX6, rfl, by decide +kernel, rfl⟩
theorem ff_X6_70 : FF RX6 70 6 26 (.array .int) := ⟨RX6, TX6, 33, tyX6, rfl, uw_6, by decide, g_mem 744 (by decide +kernel) rfl, tyX6_ok, nmX6, rfl, by decide +kernel, rfl⟩
theorem ff_X6_73 : FF RX6 73 6 27 (.array .int) := ⟨RX6, TX6, 33, tyX6, rfl, uw_6, by decide, g_mem 745 (by decide +kernel) rfl, tyX6_ok, nmX6, rfl, by decide +kernel, rfl⟩
theorem ff_X6_76 : FF RX6 76 6 31 (.array .int) := ⟨RX6, TX6, 33, tyX6, rfl, uw_6, by decide, g_mem 749 (by decide +kernel) rfl, tyX6_ok, nmX6, rfl, by decide +kernel, rfl⟩
theorem fl_c_X6_17 : FL RX6 17 6 5 := ⟨RX6, TX6, 33, rfl, uw_6, by decide, g_mem 723 (by decide +kernel) rfl⟩
theorem fl_c_X6_26 : FL RX6 26 6 8 := ⟨RX6, TX6, 33, rfl, uw_6, by decide, g_mem 726 (by decide +kernel) rfl⟩
