/-! THE CLAIM OUT OF ONE WALK OF THE LAW'S BODY. Your part is whole_start (and what it stands on); all else here is the same for every law, but numbers. -/
def R_law : String := "TheUsualLaw"
def lw_P (b : Addr) (xs : List Int32) (args : Array Value) (s : State) : Prop := args = #[.ref b] ∧ s.IntsAt b xs ∧ xs.length ≤ 3072 ∧ (Jvm.Cond.and given_1 narrow_1).before args s = true
def lw_Q (_ : Array Value) (s : State) (o : Outcome) (t : State) : Prop := o = .returned (some (.int 1)) ∧ Framed s o t [] 600000 7302250
def lw_Z (below : List Frame) (a : Array Value) (s : State) : State → Prop := fun t => ∃ o, t.status = .running ∧ Ended t below o ∧ lw_Q a s o t
/-- the law's own end, with 1 on the stack, nothing written that was there before, its room as the claim has it -/
theorem lw_ret {p : Program} {l : Launch} {e : Env} {s : State} {m : MethodId} {below : List Frame} {meth : Method} {c : Code} {b : Nat} (hx : p.tables.exec = Jvm.exec) (hb : c.code = code) (hr : meth.sig.returnType = ret) (hlocks : meth.locks = false) {pc : Nat} {H : Heap} {ls : Array Slot} (hdg : decode code pc = .ok (.ireturn, 1)) : W p l e room_1 s m #[Value.ref b] below meth c H [] 600000 7302250 (lw_Z below #[Value.ref b] s) (F0 m pc ls [.int 1]) := by
  intro T hT X
  obtain ⟨fs, hret, hrun, hended, hW, hframe⟩ := X.leave (v := some (.int 1)) (hlocks := hlocks) (fun h => by rw [hr] at h; cases h)
  have hmeth' : T.vm.method? m = some meth := X.method'
  refine ⟨T.setFrames fs, ?_, .returned (some (.int 1)), hrun, hended, rfl, ⟨_, rfl⟩, hW, hframe⟩
  jvm_step X.here [X.here.top, hx, hb, hdg, hmeth', hr, ret, narrow_b1]
  (try refine ⟨rfl, ?_⟩); (try refine ⟨rfl, ?_⟩)
  first | (intro acts; rw [hret _ acts rfl rfl rfl]) | rw [hret _ _ rfl rfl rfl]
  exact Steps.refl _
/-- what holds at the law's entry: the machine, the code, the tables' words (any of lw_tbl by 'hts w (by decide +kernel)'), the script of L ints xs at the cell b, what the Statement gives of the start (any of its parts by flat_of_before) -/
def lw_At (p : Program) (s : State) (m : MethodId) (meth : Method) (c : Code) (b L : Nat) (xs : Nat → Int32) : Prop :=
  p.tables.exec = Jvm.exec ∧ c.code = code ∧ meth.sig.returnType = ret ∧ c.maxLocals = 4 ∧ s.vm.findClass R_law = some m.cls ∧ (∀ w ∈ lw_tbl, w.before #[Value.ref b] s = true) ∧ va_X b L xs s s.heap ∧ b < s.heap.size ∧ meth.locks = false ∧ (Jvm.Cond.and given_1 narrow_1).before #[Value.ref b] s = true
/-! THE LAW OVER TWO WORLDS: the class's and the reference's side by side, apart -/
def LV (b c0 m0 : Nat) (x3 : Int32) : List (Nat × Value) := [(0, .ref b), (1, .ref c0), (2, .ref m0), (3, .int x3)]
def Wl (X : Cx) (oc om : OO) (sc sm : St) (pc : Nat) (lv : List (Nat × Value)) (stk : List Value) : Prop :=
  ∀ (H : Heap) (locs : List Loc) (ls : Array Slot), va_P (oD oc) vwCl (wd oc sc) H → va_P (oD om) vwCl (wd om sm) H → va_S (xA X) (xS X).heap H locs → lv_has ls 4 lv →
    W (xp X) (xl X) (xe X) (xR X) (xS X) (xm X) (xa X) (xb X) (xM X) (xc X) H locs (xC X) (xs X) (xQ X) (F0 (xm X) pc ls stk)
def Ap (oc om : OO) : Prop := ∀ k k2 : Nat, k < oc.2.1 → k2 < om.2.1 → al oc k ≠ al om k2
def Ol (X : Cx) (oc om : OO) (b L : Nat) (xv : Nat → Int32) : Prop :=
  Ok X oc cL_law RL 4 room_1 ∧ Ok X om cL_law RL 4 room_1 ∧ Ap oc om ∧ va_X b L xv (xS X) (xS X).heap ∧ b < (xS X).heap.size ∧ ¬ xA X b
theorem wd_in {o : OO} {st : St} {k : Nat} {q : Nat × va_E} (h : (wd o st)[k]? = some q) : k < o.2.1 ∧ q.1 = al o k := by
  by_cases hk : k < o.2.1
  · rw [wd_get st hk] at h
    cases h
    exact ⟨hk, rfl⟩
  · rw [wd_none st hk] at h
    cases h
theorem lcmp_self (r : Int64) : lg_cmp r r = 0 := by
  unfold lg_cmp
  simp
theorem lt_six {L j : Nat} (hL : L ≤ 3072) (hj : j ≤ 3072) (h : L < j + 6) : nI L - 6 < nI j := by
  rw [Int32.lt_iff_toInt_lt, Int32.toInt_sub, nI_toInt (by omega), nI_toInt (by omega)]
  rw [show (6 : Int32).toInt = 6 from rfl, Int.bmod_eq_of_le (by omega) (by omega)]
  omega
theorem in_six {L j k : Nat} (hL : L ≤ 3072) (h : j + k < L) : vp_in (nI j + nI k) L := by
  rw [nI_add]
  exact vp_in_nI h (by omega)
section KL
variable {X : Cx} {oc om : OO} {b L : Nat} {xv : Nat → Int32} {sc sm sc' sm' : St} {pc pc' : Nat} {lv lv' : List (Nat × Value)} {stk rest As : List Value} {y : MethodName} {bytes : ByteArray} {maxL n hh idx : Nat} {ret : Option FieldType} {rv : Option Value}
theorem l_al (h : Ol X oc om b L xv) {k : Fin 4} {i : Nat} {x : Nat} (hd : decode cL_law pc = .ok (.aload_n k, 1)) (hn : pc + 1 = pc') (hi : (k : Nat) = i) (j : Nat) (hj : lv[j]? = some (i, .ref x)) (kk : Wl X oc om sc sm pc' lv (.ref x :: stk)) : Wl X oc om sc sm pc lv stk := by
  subst hn
  intro H locs ls hP hQ hS hl
  exact lv_aload_n h.1.1 h.1.2.1 hd hi (lv_at hl j hj) (kk H locs ls hP hQ hS hl)
theorem l_il (h : Ol X oc om b L xv) {k : Fin 4} {i : Nat} {x : Int32} (hd : decode cL_law pc = .ok (.iload_n k, 1)) (hn : pc + 1 = pc') (hi : (k : Nat) = i) (j : Nat) (hj : lv[j]? = some (i, .int x)) (kk : Wl X oc om sc sm pc' lv (.int x :: stk)) : Wl X oc om sc sm pc lv stk := by
  subst hn
  intro H locs ls hP hQ hS hl
  exact lv_iload_n h.1.1 h.1.2.1 hd hi (lv_at hl j hj) (kk H locs ls hP hQ hS hl)
theorem l_iconst (h : Ol X oc om b L xv) {n : Int} {v : Int32} (hd : decode cL_law pc = .ok (.iconst n, 1)) (hn : pc + 1 = pc') (hv : Int32.ofInt n = v) (kk : Wl X oc om sc sm pc' lv (.int v :: stk)) : Wl X oc om sc sm pc lv stk := by
  subst hn
  intro H locs ls hP hQ hS hl
  exact lv_iconst h.1.1 h.1.2.1 hd hv (kk H locs ls hP hQ hS hl)
theorem l_bipush (h : Ol X oc om b L xv) {n : Int} {v : Int32} (hd : decode cL_law pc = .ok (.bipush n, 2)) (hn : pc + 2 = pc') (hv : (Int8.ofInt n).toInt32 = v) (kk : Wl X oc om sc sm pc' lv (.int v :: stk)) : Wl X oc om sc sm pc lv stk := by
  subst hn
  intro H locs ls hP hQ hS hl
  exact lv_bipush h.1.1 h.1.2.1 hd hv (kk H locs ls hP hQ hS hl)
theorem l_iadd (h : Ol X oc om b L xv) {x y : Int32} (hd : decode cL_law pc = .ok (.iadd, 1)) (hn : pc + 1 = pc') (kk : Wl X oc om sc sm pc' lv (.int (x + y) :: stk)) : Wl X oc om sc sm pc lv (.int y :: .int x :: stk) := by
  subst hn
  intro H locs ls hP hQ hS hl
  exact lv_iadd h.1.1 h.1.2.1 hd (kk H locs ls hP hQ hS hl)
theorem l_isub (h : Ol X oc om b L xv) {x y : Int32} (hd : decode cL_law pc = .ok (.isub, 1)) (hn : pc + 1 = pc') (kk : Wl X oc om sc sm pc' lv (.int (x - y) :: stk)) : Wl X oc om sc sm pc lv (.int y :: .int x :: stk) := by
  subst hn
  intro H locs ls hP hQ hS hl
  exact lv_isub h.1.1 h.1.2.1 hd (kk H locs ls hP hQ hS hl)
theorem l_iand (h : Ol X oc om b L xv) {x y : Int32} (hd : decode cL_law pc = .ok (.iand, 1)) (hn : pc + 1 = pc') (kk : Wl X oc om sc sm pc' lv (.int (x &&& y) :: stk)) : Wl X oc om sc sm pc lv (.int y :: .int x :: stk) := by
  subst hn
  intro H locs ls hP hQ hS hl
  exact lv_iand h.1.1 h.1.2.1 hd (kk H locs ls hP hQ hS hl)
theorem l_lcmp (h : Ol X oc om b L xv) {x y : Int64} (hd : decode cL_law pc = .ok (.lcmp, 1)) (hn : pc + 1 = pc') (kk : Wl X oc om sc sm pc' lv (.int (lg_cmp x y) :: stk)) : Wl X oc om sc sm pc lv (.long y :: .long x :: stk) := by
  subst hn
  intro H locs ls hP hQ hS hl
  exact W.lcmp h.1.1 h.1.2.1 hd (kk H locs ls hP hQ hS hl)
theorem l_iinc (h : Ol X oc om b L xv) {i : Nat} {n : Int} {x v : Int32} (hd : decode cL_law pc = .ok (.iinc i n, 3)) (hn : pc + 3 = pc') (j : Nat) (hj : lv[j]? = some (i, .int x)) (hv : x + Int32.ofInt n = v) (hL : i < 4) (ks : List Nat) (hs : lv_pick ((i, Value.int v) :: lv.filter (fun q => !(q.1 == i) && !(q.1 + 1 == i && q.2.category == 2))) ks = lv') (kk : Wl X oc om sc sm pc' lv' stk) : Wl X oc om sc sm pc lv stk := by
  subst hn
  intro H locs ls hP hQ hS hl
  exact lv_iinc h.1.1 h.1.2.1 hd hl hj hv hL rfl (fun ls2 hl2 => kk H locs ls2 hP hQ hS (lv_sub hl2 ks hs))
theorem l_goto (h : Ol X oc om b L xv) {off : Int} {tgt : Nat} (hd : decode cL_law pc = .ok (.goto off, 3)) (ht : (pc : Int) + off = (tgt : Int)) (kk : Wl X oc om sc sm tgt lv stk) : Wl X oc om sc sm pc lv stk := fun H locs ls hP hQ hS hl => lv_goto h.1.1 h.1.2.1 hd ht (kk H locs ls hP hQ hS hl)
theorem l_ifeq (h : Ol X oc om b L xv) {x : Int32} {off : Int} {tgt : Nat} (hd : decode cL_law pc = .ok (.ifCond .eq off, 3)) (hn : pc + 3 = pc') (ht : (pc : Int) + off = (tgt : Int)) (kt : x = 0 → Wl X oc om sc sm tgt lv stk) (kf : ¬ x = 0 → Wl X oc om sc sm pc' lv stk) : Wl X oc om sc sm pc lv (.int x :: stk) := by
  subst hn
  intro H locs ls hP hQ hS hl
  exact lv_if_eq h.1.1 h.1.2.1 hd ht (fun q => kt q H locs ls hP hQ hS hl) (fun q => kf q H locs ls hP hQ hS hl)
theorem l_icmpeq (h : Ol X oc om b L xv) {x y : Int32} {off : Int} {tgt : Nat} (hd : decode cL_law pc = .ok (.if_icmp .eq off, 3)) (hn : pc + 3 = pc') (ht : (pc : Int) + off = (tgt : Int)) (kt : x = y → Wl X oc om sc sm tgt lv stk) (kf : ¬ x = y → Wl X oc om sc sm pc' lv stk) : Wl X oc om sc sm pc lv (.int y :: .int x :: stk) := by
  subst hn
  intro H locs ls hP hQ hS hl
  exact lv_icmp_eq h.1.1 h.1.2.1 hd ht (fun q => kt q H locs ls hP hQ hS hl) (fun q => kf q H locs ls hP hQ hS hl)
theorem l_icmpgt (h : Ol X oc om b L xv) {x y : Int32} {off : Int} {tgt : Nat} (hd : decode cL_law pc = .ok (.if_icmp .gt off, 3)) (hn : pc + 3 = pc') (ht : (pc : Int) + off = (tgt : Int)) (kt : y < x → Wl X oc om sc sm tgt lv stk) (kf : ¬ y < x → Wl X oc om sc sm pc' lv stk) : Wl X oc om sc sm pc lv (.int y :: .int x :: stk) := by
  subst hn
  intro H locs ls hP hQ hS hl
  exact lv_icmp_gt h.1.1 h.1.2.1 hd ht (fun q => kt q H locs ls hP hQ hS hl) (fun q => kf q H locs ls hP hQ hS hl)
theorem l_tout (h : Ol X oc om b L xv) {dflt lo hi : Int} {offs : Array Int} {len : Nat} {x : Int32} {tgt : Nat} (hd : decode cL_law pc = .ok (.tableswitch dflt lo hi offs, len)) (hx : x.toInt < lo ∨ hi < x.toInt) (ht : (pc : Int) + dflt = (tgt : Int)) (kk : Wl X oc om sc sm tgt lv stk) : Wl X oc om sc sm pc lv (.int x :: stk) := fun H locs ls hP hQ hS hl => lv_tableOut h.1.1 h.1.2.1 hd hx ht (kk H locs ls hP hQ hS hl)
theorem l_tin (z : Int) (h : Ol X oc om b L xv) {dflt lo hi : Int} {offs : Array Int} {len : Nat} {x : Int32} {off : Int} {tgt : Nat} (hd : decode cL_law pc = .ok (.tableswitch dflt lo hi offs, len)) (hx : x.toInt = z) (h1 : lo ≤ z) (h2 : z ≤ hi) (ho : offs[(z - lo).toNat]? = some off) (ht : (pc : Int) + off = (tgt : Int)) (kk : Wl X oc om sc sm tgt lv stk) : Wl X oc om sc sm pc lv (.int x :: stk) := fun H locs ls hP hQ hS hl => lv_tableIn h.1.1 h.1.2.1 hd (by rw [hx]; omega) (by rw [hx]; omega) (by rw [hx]; exact ho) ht (kk H locs ls hP hQ hS hl)
theorem l_sld (h : Ol X oc om b L xv) {i : Int32} (hd : decode cL_law pc = .ok (.iaload, 1)) (hn : pc + 1 = pc') (hi : vp_in i L) (kk : Wl X oc om sc sm pc' lv (.int (xv i.toNatClampNeg) :: stk)) : Wl X oc om sc sm pc lv (.int i :: .ref b :: stk) := by
  subst hn
  intro H locs ls hP hQ hS hl
  exact va_sld h.1.1 h.1.2.1 h.2.2.2.1 h.2.2.2.2.1 h.2.2.2.2.2 hS hi hd (kk H locs ls hP hQ hS hl)
theorem l_slen (h : Ol X oc om b L xv) (hd : decode cL_law pc = .ok (.arraylength, 1)) (hn : pc + 1 = pc') (kk : Wl X oc om sc sm pc' lv (.int (nI L) :: stk)) : Wl X oc om sc sm pc lv (.ref b :: stk) := by
  subst hn
  intro H locs ls hP hQ hS hl
  exact va_slen h.1.1 h.1.2.1 h.2.2.2.1 h.2.2.2.2.1 h.2.2.2.2.2 hS hd (kk H locs ls hP hQ hS hl)
/-- an argument out of the script -/
theorem l_arg (h : Ol X oc om b L xv) {c0 m0 : Nat} {x3 v : Int32} {k : Int} (d0 : decode cL_law pc = .ok (.aload_n 0, 1)) (d1 : decode cL_law (pc + 1) = .ok (.iload_n 3, 1)) (d2 : decode cL_law (pc + 2) = .ok (.iconst k, 1)) (d3 : decode cL_law (pc + 3) = .ok (.iadd, 1)) (d4 : decode cL_law (pc + 4) = .ok (.iaload, 1)) (hn : pc + 5 = pc') (hv : Int32.ofInt k = v) (hi : vp_in (x3 + v) L) (kk : Wl X oc om sc sm pc' (LV b c0 m0 x3) (.int (xv (x3 + v).toNatClampNeg) :: stk)) : Wl X oc om sc sm pc (LV b c0 m0 x3) stk := by
  refine l_al h d0 rfl rfl 0 rfl ?_
  refine l_il h d1 rfl rfl 3 rfl ?_
  refine l_iconst h d2 rfl hv ?_
  refine l_iadd h d3 rfl ?_
  exact l_sld h d4 hn hi kk
theorem l_run {o o2 : OO} {st st' st2 : St} {cc : ByteArray} {own : String} {nL : Nat} {R : Room} (h : Ok X o cc own nL R) (hap : ∀ k k2 : Nat, k < o.2.1 → k2 < o2.2.1 → al o k ≠ al o2 k2) {H : Heap} {locs : List Loc} {ls : Array Slot} (hP2 : va_P (oD o2) vwCl (wd o2 st2) H) (hS : va_S (xA X) (xS X).heap H locs) {a : Array Value}
    (hr : va_Run (xp X) (xl X) (xe X) (xR X) (xS X) (xm X) (xa X) (xb X) (xM X) (xc X) H locs (xC X) (xs X) 0 0 (F0 (xm X) pc ls stk) rest (Po o st st' rv H.size a) (va_A (wd o st) H.size))
    (kk : ∀ (H1 : Heap) (locs1 : List Loc), va_P (oD o) vwCl (wd o st') H1 → va_P (oD o2) vwCl (wd o2 st2) H1 → va_S (xA X) (xS X).heap H1 locs1 → W (xp X) (xl X) (xe X) (xR X) (xS X) (xm X) (xa X) (xb X) (xM X) (xc X) H1 locs1 (xC X) (xs X) (xQ X) (F0 (xm X) (pc + 3) ls (rv.toList ++ rest))) : W (xp X) (xl X) (xe X) (xR X) (xS X) (xm X) (xa X) (xb X) (xM X) (xc X) H locs (xC X) (xs X) (xQ X) (F0 (xm X) pc ls stk) := by
  intro T hT X0
  obtain ⟨v, st₀, t, T', L, h0, X', hL, e1, e2, ⟨⟨hv, hP1⟩, hz, hk⟩, stp⟩ := hr T hT X0
  cases hv
  rw [h0] at hz hk
  have hS' : va_S (xA X) (xS X).heap T'.heap (locs ++ L) := ⟨Nat.le_trans hS.1 (by rw [e1]; exact hz), fun q h1 h2 => by rw [e1, hk q (Nat.lt_of_lt_of_le h1 hS.1) (fun z => h2 (c_sub h hS q z))]; exact hS.2.1 q h1 h2, fun q hq => by
      rcases List.mem_append.mp hq with h9 | h9
      · exact hS.2.2 q h9
      · exact c_sub h hS _ (hL q h9)⟩
  have hQ : va_P (oD o2) vwCl (wd o2 st2) T'.heap := hP2.kept (fun k x hx => by
    rw [e1]
    refine hk x.1 ((hP2 k x hx).lt) (fun z => ?_)
    rcases z with ⟨k1, e, hk1⟩ | z
    · obtain ⟨a1, a2⟩ := wd_in hk1
      obtain ⟨b1, b2⟩ := wd_in hx
      exact hap k1 k a1 b1 (a2.symm.trans b2)
    · exact absurd ((hP2 k x hx).lt) (Nat.not_lt.mpr z))
  obtain ⟨t2, a1, b1⟩ := kk T'.heap (locs ++ L) (by rw [e1]; exact hP1) hQ hS' T' rfl X'
  exact ⟨t2, stp t2 a1, b1⟩
theorem l_callC (h : Ol X oc om b L xv) {ci : Nat} {q : vw_C} {F : (Nat → Int32) → (Nat → Int64) → List Value} (hd : decode cL_law pc = .ok (.invokevirtual idx, 3)) (hn : pc + 3 = pc') (hm : Cond.methodLink RL idx y ∈ gtb) (hw : WC y bytes maxL ret n) (hi : WI y) (hR : hh + 1 ≤ room_1.frames ∧ 8 + (maxL + 11) + 30 * hh ≤ room_1.locals) (ho : isObj oc 0 ci F) (hc : vwCl[ci]? = some q) (hq : q.1 = y.cls) (hA : As.length = n) (hst : stk = As.reverse ++ .ref (al oc 0) :: rest) (hcat : (rest.map fun v => v.category).sum ≤ 8) (hM : ∀ l, MM l y bytes maxL ret hh oc (.ref (al oc 0) :: As) sc rv sc') {stk' : List Value} (hs' : rv.toList ++ rest = stk') (kk : Wl X oc om sc' sm pc' lv stk') : Wl X oc om sc sm pc lv stk := by
  subst hn
  subst hs'
  intro H locs ls hP hQ hS hl
  have h1 := h.1
  have hrec := va_recv (q0 := 0) h1.2.2.2.2.2.1 hP hc ((wd_get sc ho.1).trans (by rw [ho.2]))
  rw [hq] at hrec
  exact l_run h1 h.2.2.1 hQ hS (va_runV (As := As) (rest := rest) (b := al oc 0) ⟨h1.1, h1.2.1, h1.2.2.1, h1.2.2.2.1, h1.2.2.2.2.1⟩ (hM (xl X) H.size) ⟨c_B h1 hm hw hR, h1.2.2.2.2.1 _ hi.1, h1.2.2.2.2.1 _ hi.2⟩ ⟨c_blind, hrec, c_pre h1 hP hS⟩ rfl hA hl.1 hst (lv_room hcat) hd (c_room h1)) (fun H1 locs1 a1 a2 a3 => kk H1 locs1 ls a1 a2 a3 hl)
theorem l_callM (h : Ol X oc om b L xv) {ci : Nat} {q : vw_C} {F : (Nat → Int32) → (Nat → Int64) → List Value} (hd : decode cL_law pc = .ok (.invokevirtual idx, 3)) (hn : pc + 3 = pc') (hm : Cond.methodLink RL idx y ∈ gtb) (hw : WC y bytes maxL ret n) (hi : WI y) (hR : hh + 1 ≤ room_1.frames ∧ 8 + (maxL + 11) + 30 * hh ≤ room_1.locals) (ho : isObj om 0 ci F) (hc : vwCl[ci]? = some q) (hq : q.1 = y.cls) (hA : As.length = n) (hst : stk = As.reverse ++ .ref (al om 0) :: rest) (hcat : (rest.map fun v => v.category).sum ≤ 8) (hM : ∀ l, MM l y bytes maxL ret hh om (.ref (al om 0) :: As) sm rv sm') {stk' : List Value} (hs' : rv.toList ++ rest = stk') (kk : Wl X oc om sc sm' pc' lv stk') : Wl X oc om sc sm pc lv stk := by
  subst hn
  subst hs'
  intro H locs ls hP hQ hS hl
  have h1 := h.2.1
  have hrec := va_recv (q0 := 0) h1.2.2.2.2.2.1 hQ hc ((wd_get sm ho.1).trans (by rw [ho.2]))
  rw [hq] at hrec
  exact l_run h1 (fun k k2 a1 a2 e => h.2.2.1 k2 k a2 a1 e.symm) hP hS (va_runV (As := As) (rest := rest) (b := al om 0) ⟨h1.1, h1.2.1, h1.2.2.1, h1.2.2.2.1, h1.2.2.2.2.1⟩ (hM (xl X) H.size) ⟨c_B h1 hm hw hR, h1.2.2.2.2.1 _ hi.1, h1.2.2.2.2.1 _ hi.2⟩ ⟨c_blind, hrec, c_pre h1 hQ hS⟩ rfl hA hl.1 hst (lv_room hcat) hd (c_room h1)) (fun H1 locs1 a1 a2 a3 => kk H1 locs1 ls a2 a1 a3 hl)
end KL
