/-! CONTRACTS AND CALLS -/
theorem tb_in : ∀ w ∈ gtb, (w.onTables && w.keeps) = true ∨ ∃ ty, w = .arrayClass ty := fun w h => good_of_word (List.mem_filter.mp h).2
theorem tb_G {w : Cond} (h : w ∈ gtb) : GoodIn gtb (w :: gtb) := fun v hv => by
  rcases List.mem_cons.mp hv with q | q
  · subst q; exact ⟨h, tb_in _ h⟩
  · exact ⟨q, tb_in _ q⟩
def RM (h : Nat) : Room := { frames := h, cells := 0, slots := 0, locals := 30 * h }
def Pr (o : OO) (st : St) (avs : List Value) (sz : Nat) : Array Value → State → Prop := va_Pc avs (fun U => U.heap.size = sz ∧ va_P (oD o) vwCl (wd o st) U.heap ∧ va_K (oD o) vwCl (tyG o) U ∧ va_D (fun _ => True) (wd o st) ∧ sx o (va_A (wd o st) sz) U U.heap ∧ nx U)
def Po (o : OO) (st st' : St) (rv : Option Value) (sz : Nat) : Array Value → State → Outcome → State → Prop := fun _ s0 oc t => (oc = .returned rv ∧ va_P (oD o) vwCl (wd o st') t.heap) ∧ va_F (va_A (wd o st) sz) s0 t
def MM (l : Launch) (y : MethodName) (bytes : ByteArray) (maxL : Nat) (ret : Option FieldType) (hh : Nat) (o : OO) (avs : List Value) (st : St) (rv : Option Value) (st' : St) : Prop := ∀ sz, Met l y (Cond.code y bytes maxL ret :: gtb) (RM hh) (Pr o st avs sz) (Po o st st' rv sz) 0 0 (va_A (wd o st) sz)
theorem mk_MM {l : Launch} {y : MethodName} {bytes : ByteArray} {maxL : Nat} {ret : Option FieldType} {hh : Nat} {o : OO} {avs : List Value} {st : St} {rv : Option Value} {st' : St} (hy : plainName y.cls = true) (hlen : (lg_sl avs).length ≤ maxL)
    (body : ∀ X : Cx, Ok X o bytes y.cls maxL (RM hh) → Rt X o (fun v s' => v = rv ∧ s' = st') ret → Wk X o maxL st 0 (lv_args 0 avs) []) : MM l y bytes maxL ret hh o avs st rv st' := by
  intro sz
  refine Met.ofW (cc := bytes) (maxL := maxL) (ret := ret) hy rfl ?_
  intro p e s m args below meth c s₁ B hml hv
  obtain ⟨rfl, hsz, hP, hK, hD, hsx, hnx⟩ := hv
  subst hsz
  rw [lg_entry_eq]
  have hl := lv_entry avs (n := maxL) hlen
  exact body (p, l, e, RM hh, s, m, avs.toArray, below, meth, c, 0, 0, MQ below (Po o st st' rv s.heap.size) avs.toArray s 0 0 (va_A (wd o st) s.heap.size), va_A (wd o st) s.heap.size)
    ⟨B.exec, B.bytes, hml, findClass_of_methodNamed B.named, fun w hw => atoms_spec B.pre w (List.mem_cons_of_mem _ hw), hK, fun st2 => wd_D (hD.self (sz := s.heap.size)), fun q h => Or.inr h, hsx, rfl, Nat.le_refl _, Nat.le_refl _, hnx⟩
    ⟨B.returns, B.notSynchronized, Po o st st' rv s.heap.size, va_A (wd o st) s.heap.size, rfl, fun q h => h, fun H locs v st2 hP2 hS2 hp t ht hW => ⟨⟨by rw [hp.1], by rw [ht, ← hp.2]; exact hP2⟩, hS2.F ht⟩⟩
    s.heap [] _ hP va_S.rf hl
/-! a call by its entry -/
def WC (y : MethodName) (bytes : ByteArray) (maxL : Nat) (ret : Option FieldType) (n : Nat) : Prop := Cond.initialized y.cls ∈ gtb ∧ Cond.code y bytes maxL ret ∈ gtb ∧ (y.cls ≠ "java/lang/invoke/MethodHandle" ∧ y.cls ≠ "java/lang/invoke/VarHandle" ∧ (parseMethodDescriptor y.desc).map (fun d => d.parameters.length) = some n)
def WI (y : MethodName) : Prop := Cond.instanceMethod y ∈ gtb ∧ Cond.selects y.cls y y ∈ gtb
section KC
variable {X : Cx} {o : OO} {cc : ByteArray} {own : String} {nL : Nat} {R : Room} {st st' : St} {pc pc' : Nat} {lv lv' : List (Nat × Value)} {stk rest As : List Value} {y : MethodName} {bytes : ByteArray} {maxL n hh idx : Nat} {ret : Option FieldType} {rv : Option Value}
theorem c_blind {sz : Nat} {avs : List Value} : FrameBlind (Pr o st avs sz) := fun a U g mk q => by
  obtain ⟨q0, q1, q2, q3, q4, q5, q6⟩ := q
  exact ⟨q0, q1, q2, va_K.moved (u := U) (U := U.calling g mk a) (Vm.Alike.refl U.vm) q3, q4, sx_moved (u := U) (U := U.calling g mk a) (Vm.Alike.refl U.vm) q5, nx_same (u := U) (U := U.calling g mk a) rfl q6⟩
theorem c_sub (h : Ok X o cc own nL R) {H : Heap} {locs : List Loc} (hS : va_S (xA X) (xS X).heap H locs) : ∀ q, va_A (wd o st) H.size q → xA X q := by
  intro q hq
  rcases hq with ⟨k, e, hk⟩ | hq
  · exact (h.2.2.2.2.2.2.1 st).2 k (q, e) hk
  · exact h.2.2.2.2.2.2.2.1 q (Nat.le_trans hS.1 hq)
theorem c_pre (h : Ok X o cc own nL R) {H : Heap} {locs : List Loc} (hP : va_P (oD o) vwCl (wd o st) H) (hS : va_S (xA X) (xS X).heap H locs) {avs : List Value} : ∀ U : State, U.heap = H → (xS X).WarmedH U.vm → Pr o st avs H.size avs.toArray U := by
  intro U hU hW
  refine ⟨rfl, by rw [hU], by rw [hU]; exact hP, va_K.moved hW.alike h.2.2.2.2.2.1, (h.2.2.2.2.2.2.1 st).weaken (fun _ _ _ _ => trivial), ?_, nx_warm hW h.2.2.2.2.2.2.2.2.2.2.2.2⟩
  rw [hU]
  exact sx_narrow (sx_moved hW.alike (sx_kept h.2.2.2.2.2.2.2.2.1 hS.2.1)) (c_sub h hS)
theorem c_run (h : Ok X o cc own nL R) {H : Heap} {locs : List Loc} {ls : Array Slot} (hS : va_S (xA X) (xS X).heap H locs) (hl : lv_has ls nL lv) {a : Array Value}
    (hr : va_Run (xp X) (xl X) (xe X) (xR X) (xS X) (xm X) (xa X) (xb X) (xM X) (xc X) H locs (xC X) (xs X) 0 0 (F0 (xm X) pc ls stk) rest (Po o st st' rv H.size a) (va_A (wd o st) H.size))
    (kk : Wk X o nL st' (pc + 3) lv (rv.toList ++ rest)) : W (xp X) (xl X) (xe X) (xR X) (xS X) (xm X) (xa X) (xb X) (xM X) (xc X) H locs (xC X) (xs X) (xQ X) (F0 (xm X) pc ls stk) := by
  intro T hT X0
  obtain ⟨v, st₀, t, T', L, h0, X', hL, e1, e2, ⟨⟨hv, hP1⟩, hz, hk⟩, stp⟩ := hr T hT X0
  cases hv
  rw [h0] at hz hk
  have hS' : va_S (xA X) (xS X).heap T'.heap (locs ++ L) := ⟨Nat.le_trans hS.1 (by rw [e1]; exact hz), fun q h1 h2 => by rw [e1, hk q (Nat.lt_of_lt_of_le h1 hS.1) (fun z => h2 (c_sub h hS q z))]; exact hS.2.1 q h1 h2, fun q hq => by
      rcases List.mem_append.mp hq with h9 | h9
      · exact hS.2.2 q h9
      · exact c_sub h hS _ (hL q h9)⟩
  obtain ⟨t2, a1, b1⟩ := kk T'.heap (locs ++ L) ls (by rw [e1]; exact hP1) hS' hl T' rfl X'
  exact ⟨t2, stp t2 a1, b1⟩
theorem c_B (h : Ok X o cc own nL R) (hm : Cond.methodLink own idx y ∈ gtb) (hw : WC y bytes maxL ret n) (hR : hh + 1 ≤ R.frames ∧ 8 + (maxL + 11) + 30 * hh ≤ R.locals) : CallB (xR X) (xS X) (xa X) own idx y bytes maxL ret (Cond.code y bytes maxL ret :: gtb) (RM hh) 0 0 n :=
  callB_of (Ts := gtb) n h.2.2.2.2.1 (tb_G hw.2.1) rfl rfl rfl (h.2.2.2.2.1 _ hw.1) (h.2.2.2.2.1 _ hm) hw.2.2 (by rw [h.2.2.2.2.2.2.2.2.2.1]; exact hR)
theorem c_room (h : Ok X o cc own nL R) : xC X + 0 ≤ (xR X).cells ∧ xs X + 0 ≤ (xR X).slots := by
  rw [h.2.2.2.2.2.2.2.2.2.1]
  exact ⟨h.2.2.2.2.2.2.2.2.2.2.1, h.2.2.2.2.2.2.2.2.2.2.2.1⟩
theorem k_callV (h : Ok X o cc own nL R) {k ci : Nat} {q : vw_C} {F : (Nat → Int32) → (Nat → Int64) → List Value} (hd : decode cc pc = .ok (.invokevirtual idx, 3)) (hn : pc + 3 = pc') (hm : Cond.methodLink own idx y ∈ gtb) (hw : WC y bytes maxL ret n) (hi : WI y) (hR : hh + 1 ≤ R.frames ∧ 8 + (maxL + 11) + 30 * hh ≤ R.locals) (ho : isObj o k ci F) (hc : vwCl[ci]? = some q) (hq : q.1 = y.cls) (hA : As.length = n) (hst : stk = As.reverse ++ .ref (al o k) :: rest) (hcat : (rest.map fun v => v.category).sum ≤ 8) (hM : ∀ l, MM l y bytes maxL ret hh o (.ref (al o k) :: As) st rv st') {stk' : List Value} (hs' : rv.toList ++ rest = stk') (kk : Wk X o nL st' pc' lv stk') : Wk X o nL st pc lv stk := by
  subst hn
  subst hs'
  intro H locs ls hP hS hl
  have hrec := va_recv (q0 := k) h.2.2.2.2.2.1 hP hc ((wd_get st ho.1).trans (by rw [ho.2]))
  rw [hq] at hrec
  exact c_run h hS hl (va_runV (As := As) (rest := rest) (b := al o k) ⟨h.1, h.2.1, h.2.2.1, h.2.2.2.1, h.2.2.2.2.1⟩ (hM (xl X) H.size) ⟨c_B h hm hw hR, h.2.2.2.2.1 _ hi.1, h.2.2.2.2.1 _ hi.2⟩ ⟨c_blind, hrec, c_pre h hP hS⟩ rfl hA hl.1 hst (lv_room hcat) hd (c_room h)) kk
theorem k_callS (h : Ok X o cc own nL R) (hd : decode cc pc = .ok (.invokestatic idx, 3)) (hn : pc + 3 = pc') (hm : Cond.methodLink own idx y ∈ gtb) (hw : WC y bytes maxL ret n) (hi : Cond.static y ∈ gtb) (hR : hh + 1 ≤ R.frames ∧ 8 + (maxL + 11) + 30 * hh ≤ R.locals) (hA : As.length = n) (hst : stk = As.reverse ++ rest) (hcat : (rest.map fun v => v.category).sum ≤ 8) (hM : ∀ l, MM l y bytes maxL ret hh o As st rv st') {stk' : List Value} (hs' : rv.toList ++ rest = stk') (kk : Wk X o nL st' pc' lv stk') : Wk X o nL st pc lv stk := by
  subst hn
  subst hs'
  intro H locs ls hP hS hl
  exact c_run h hS hl (va_runS (As := As) (rest := rest) ⟨h.1, h.2.1, h.2.2.1, h.2.2.2.1, h.2.2.2.2.1⟩ (hM (xl X) H.size) ⟨c_B h hm hw hR, h.2.2.2.2.1 _ hi⟩ ⟨c_blind, c_pre h hP hS⟩ rfl hA hl.1 hst (lv_room hcat) hd (c_room h)) kk
theorem k_callSN (h : Ok X o cc own nL R) {host : String} (hd : decode cc pc = .ok (.invokestatic idx, 3)) (hn : pc + 3 = pc') (hm : nx (xS X) → va_Nw (.methodLinkNest own idx y host) (xS X)) (hw : WC y bytes maxL ret n) (hi : Cond.static y ∈ gtb) (hR : hh + 1 ≤ R.frames ∧ 8 + (maxL + 11) + 30 * hh ≤ R.locals) (hA : As.length = n) (hst : stk = As.reverse ++ rest) (hcat : (rest.map fun v => v.category).sum ≤ 8) (hM : ∀ l, MM l y bytes maxL ret hh o As st rv st') {stk' : List Value} (hs' : rv.toList ++ rest = stk') (kk : Wk X o nL st' pc' lv stk') : Wk X o nL st pc lv stk := by
  subst hn
  subst hs'
  intro H locs ls hP hS hl
  exact c_run h hS hl (va_runSN (As := As) (rest := rest) (Ts := gtb) ⟨h.1, h.2.1, h.2.2.1, h.2.2.2.1, h.2.2.2.2.1⟩ (hM (xl X) H.size) ⟨va_cnB (Ts := gtb) n h.2.2.2.2.1 (tb_G hw.2.1) rfl rfl rfl (hm h.2.2.2.2.2.2.2.2.2.2.2.2) (h.2.2.2.2.1 _ hw.1) hw.2.2 (by rw [h.2.2.2.2.2.2.2.2.2.1]; exact hR), h.2.2.2.2.1 _ hi, trivial⟩ ⟨c_blind, c_pre h hP hS⟩ rfl hA hl.1 hst (lv_room hcat) hd (c_room h)) kk
theorem k_cpy (h : Ok X o cc own nL R) {k0 k1 n0 n1 : Nat} {sp dp nn : Int32} (hd : decode cc pc = .ok (.invokestatic idx, 3)) (hn : pc + 3 = pc') (hm : Cond.methodLink own idx arraycopyName ∈ gtb) (hw : Cond.native arraycopyName ∈ gtb ∧ Cond.static arraycopyName ∈ gtb ∧ Cond.initialized "java/lang/System" ∈ gtb) (ha0 : isArr o k0 0 n0) (ha1 : isArr o k1 0 n1) (h1 : 0 ≤ sp) (h2 : 0 ≤ dp) (h3 : 0 ≤ nn) (h4 : sp.toNatClampNeg + nn.toNatClampNeg ≤ n0) (h5 : dp.toNatClampNeg + nn.toNatClampNeg ≤ n1)
    (hR : 1 ≤ R.frames ∧ (rest.map fun v => v.category).sum + (nativeFrameWords "java/lang/System" "arraycopy" 5 + 11) ≤ R.locals) (kk : Wk X o nL (sA st k1 (va_cpy (st.1 k0) (st.1 k1) sp.toNatClampNeg dp.toNatClampNeg nn.toNatClampNeg)) pc' lv rest) : Wk X o nL st pc lv (.int nn :: .int dp :: .ref (al o k1) :: .int sp :: .ref (al o k0) :: rest) := by
  subst hn
  intro H locs ls hP hS hl
  have hr := h.2.2.2.2.2.2.2.2.2.1
  exact va_copyi h.1 h.2.1 (h.2.2.1.trans hl.1.symm) h.2.2.2.1 (h.2.2.2.2.1 _ hm) (h.2.2.2.2.1 _ hw.1) (h.2.2.2.2.1 _ hw.2.1) (h.2.2.2.2.1 _ hw.2.2) h.2.2.2.2.2.1 hP (h.2.2.2.2.2.2.1 st) hS k0 k1 0 0 ((wd_get st ha0.1).trans (by rw [ha0.2])) ((wd_get st ha1.1).trans (by rw [ha1.2])) rfl rfl rfl (Int32.not_lt.mpr h1) (Int32.not_lt.mpr h2) (Int32.not_lt.mpr h3) h4 h5 (fun _ _ => rfl) (by rw [hr]; exact hR.1) (by rw [hr]; exact hR.2) hd (fun H1 locs1 hP1 _ hS1 => kk H1 locs1 ls (by rw [← k_seta ha1]; exact hP1) hS1 hl)
end KC
/-! the ends of a walk -/
theorem lf_i {a r : Int32} {b s' : St} (h : (some (a, b) : Option (Int32 × St)) = some (r, s')) : (some (Value.int a) : Option Value) = some (.int r) ∧ b = s' := by cases h; exact ⟨rfl, rfl⟩
theorem lf_l {a r : Int64} {b s' : St} (h : (some (a, b) : Option (Int64 × St)) = some (r, s')) : (some (Value.long a) : Option Value) = some (.long r) ∧ b = s' := by cases h; exact ⟨rfl, rfl⟩
theorem lf_v {b s' : St} (h : (some b : Option St) = some s') : (none : Option Value) = none ∧ b = s' := by cases h; exact ⟨rfl, rfl⟩
def isB (x : Int32) : Bool := decide (x = 0 ∨ x = 1)
theorem isB_or {x : Int32} (h : isB x = true) : x = 0 ∨ x = 1 := of_decide_eq_true h
def nz (x : Int32) : Bool := decide (¬ x = 0)
theorem nz_n {x : Int32} (h : nz x = true) : ¬ x = 0 := of_decide_eq_true h
def nzl (x : Int64) : Bool := decide (¬ x = 0)
theorem nzl_n {x : Int64} (h : nzl x = true) : ¬ x = 0 := of_decide_eq_true h
/-- arraycopy's guard -/
def cpg (sp dp n : Int32) (n0 n1 : Nat) : Bool := decide (0 ≤ sp) && decide (0 ≤ dp) && decide (0 ≤ n) && decide (sp.toNatClampNeg + n.toNatClampNeg ≤ n0) && decide (dp.toNatClampNeg + n.toNatClampNeg ≤ n1)
theorem cpg_all {sp dp n : Int32} {n0 n1 : Nat} (h : cpg sp dp n n0 n1 = true) : 0 ≤ sp ∧ 0 ≤ dp ∧ 0 ≤ n ∧ sp.toNatClampNeg + n.toNatClampNeg ≤ n0 ∧ dp.toNatClampNeg + n.toNatClampNeg ≤ n1 := by
  unfold cpg at h
  simp only [Bool.and_eq_true, decide_eq_true_eq] at h
  exact ⟨h.1.1.1.1, h.1.1.1.2, h.1.1.2, h.1.2, h.2⟩
/-- switch's default -/
theorem sw_ne {x k : Int32} {a : Int} (h : ¬ x = k) (hk : k.toInt = a) : x.toInt ≠ a := lv_neT h hk
/-- a new state, a new number, by a name -/
def ls {α : Type} (st : St) (f : St → Option α) : Option α := f st
theorem ls_s {α : Type} {st : St} {f : St → Option α} {y : α} (h : ls st f = some y) : ∃ s, st = s ∧ f s = some y := ⟨st, rfl, h⟩
def lw {β α : Type} (x : β) (f : β → Option α) : Option α := f x
theorem lw_s {β α : Type} {x : β} {f : β → Option α} {y : α} (h : lw x f = some y) : ∃ v, x = v ∧ f v = some y := ⟨x, rfl, h⟩
theorem k_st {X : Cx} {o : OO} {nL : Nat} {st st' : St} {pc : Nat} {lv : List (Nat × Value)} {stk : List Value} (e : st = st') (kk : Wk X o nL st' pc lv stk) : Wk X o nL st pc lv stk := e ▸ kk
theorem k_eqi {X : Cx} {o : OO} {nL : Nat} {st : St} {pc : Nat} {lv : List (Nat × Value)} {stk : List Value} {x v : Int32} (e : x = v) (kk : Wk X o nL st pc lv (.int v :: stk)) : Wk X o nL st pc lv (.int x :: stk) := e ▸ kk
theorem k_eql {X : Cx} {o : OO} {nL : Nat} {st : St} {pc : Nat} {lv : List (Nat × Value)} {stk : List Value} {x v : Int64} (e : x = v) (kk : Wk X o nL st pc lv (.long v :: stk)) : Wk X o nL st pc lv (.long x :: stk) := e ▸ kk
theorem k_mmax {X : Cx} {o : OO} {cc : ByteArray} {own : String} {nL : Nat} {R : Room} {st : St} {pc pc' idx : Nat} {lv : List (Nat × Value)} {rest : List Value} (h : Ok X o cc own nL R) {x y : Int32} (hd : decode cc pc = .ok (.invokestatic idx, 3)) (hn : pc + 3 = pc') (hm : Cond.methodLink own idx Lib.Math.max.name ∈ gtb) (hw : Cond.static Lib.Math.max.name ∈ gtb ∧ Cond.initialized "java/lang/Math" ∈ gtb ∧ Cond.code Lib.Math.max.name Lib.Math.max.code 2 (some .int) ∈ gtb) (hR : 1 ≤ R.frames ∧ (rest.map fun v => v.category).sum + 13 ≤ R.locals) (kk : Wk X o nL st pc' lv (.int (if x < y then y else x) :: rest)) : Wk X o nL st pc lv (.int y :: .int x :: rest) := by
  subst hn
  intro H locs ls hP hS hl
  have hr := h.2.2.2.2.2.2.2.2.2.1
  have hc := c_room h
  exact va_mmax h.1 h.2.1 (h.2.2.1.trans hl.1.symm) h.2.2.2.1 (h.2.2.2.2.1 _ hm) (h.2.2.2.2.1 _ hw.1) (h.2.2.2.2.1 _ hw.2.1) (h.2.2.2.2.1 _ hw.2.2) (by rw [hr]; exact hR.1) (by rw [hr]; exact hR.2) hc.1 hc.2 hd (kk H locs ls hP hS hl)
theorem k_mmin {X : Cx} {o : OO} {cc : ByteArray} {own : String} {nL : Nat} {R : Room} {st : St} {pc pc' idx : Nat} {lv : List (Nat × Value)} {rest : List Value} (h : Ok X o cc own nL R) {x y : Int32} (hd : decode cc pc = .ok (.invokestatic idx, 3)) (hn : pc + 3 = pc') (hm : Cond.methodLink own idx Lib.Math.min.name ∈ gtb) (hw : Cond.static Lib.Math.min.name ∈ gtb ∧ Cond.initialized "java/lang/Math" ∈ gtb ∧ Cond.code Lib.Math.min.name Lib.Math.min.code 2 (some .int) ∈ gtb) (hR : 1 ≤ R.frames ∧ (rest.map fun v => v.category).sum + 13 ≤ R.locals) (kk : Wk X o nL st pc' lv (.int (if y < x then y else x) :: rest)) : Wk X o nL st pc lv (.int y :: .int x :: rest) := by
  subst hn
  intro H locs ls hP hS hl
  have hr := h.2.2.2.2.2.2.2.2.2.1
  have hc := c_room h
  exact va_mmin h.1 h.2.1 (h.2.2.1.trans hl.1.symm) h.2.2.2.1 (h.2.2.2.2.1 _ hm) (h.2.2.2.2.1 _ hw.1) (h.2.2.2.2.1 _ hw.2.1) (h.2.2.2.2.1 _ hw.2.2) (by rw [hr]; exact hR.1) (by rw [hr]; exact hR.2) hc.1 hc.2 hd (kk H locs ls hP hS hl)
theorem sel_r {α β γ : Type} {f : α → γ} {g : β → γ} {v : β} {y : γ} (h : Sum.elim f g (.inr v) = y) : g v = y := h
theorem lp_o {β γ : Type} {hd : β → Prop} {ex : γ → Prop} {v oo : β ⊕ γ} (hf : some v = some oo) (K : Sum.elim hd ex oo) : Sum.elim hd ex v := by cases hf; exact K
