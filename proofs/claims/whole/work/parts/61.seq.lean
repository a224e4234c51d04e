/-! A WALK THAT MAKES: the world grows -/
def tyK (cy : Nat → ClassId) : List (ClassId × FieldType) := [(cy 0, .int), (cy 1, .byte), (cy 2, .boolean), (cy 3, .object "TheUsual$Regular"), (cy 4, .object "TheUsual$Kept"), (cy 5, .array .int), (cy 6, .array .byte)]
def nI5 (U : State) : Prop := (va_Nw (.methodLinkNest RX5 41 yX1_init "TheUsual") U ∧ va_Nw (.methodLinkNest RX5 63 yX0_init "TheUsual") U ∧ va_Nw (.methodLinkNest RX0 17 yX4_init "TheUsual") U ∧ va_Nw (.methodLinkNest RX3 19 yX4_init "TheUsual") U ∧ va_Nw (.methodLinkNest RX3 24 yX2_init "TheUsual") U) ∧ (va_AO "TheUsual$Regular" U ∧ va_AO "TheUsual$Kept" U ∧ va_AOA .int U ∧ va_AOA .byte U)
theorem nI5_same {u U : State} (h : u.vm = U.vm) (q : nI5 u) : nI5 U := ⟨⟨q.1.1.same rfl h, q.1.2.1.same rfl h, q.1.2.2.1.same rfl h, q.1.2.2.2.1.same rfl h, q.1.2.2.2.2.same rfl h⟩, q.2.1.moved (h ▸ Vm.Alike.refl _), q.2.2.1.moved (h ▸ Vm.Alike.refl _), q.2.2.2.1.moved (h ▸ Vm.Alike.refl _), q.2.2.2.2.moved (h ▸ Vm.Alike.refl _)⟩
theorem nI5_warm {s U : State} (hW : s.WarmedH U.vm) (q : nI5 s) : nI5 U := ⟨⟨q.1.1.warmM hW, q.1.2.1.warmM hW, q.1.2.2.1.warmM hW, q.1.2.2.2.1.warmM hW, q.1.2.2.2.2.warmM hW⟩, q.2.1.moved hW.alike, q.2.2.1.moved hW.alike, q.2.2.2.1.moved hW.alike, q.2.2.2.2.moved hW.alike⟩
def Wi (X : Cx) (D : va_G) (nL : Nat) (ws : va_W) (nc ns pc : Nat) (lv : List (Nat × Value)) (stk : List Value) : Prop :=
  ∀ (H : Heap) (locs : List Loc) (ls : Array Slot), va_P D vwCl ws H → va_D (xA X) ws → va_S (xA X) (xS X).heap H locs → lv_has ls nL lv →
    W (xp X) (xl X) (xe X) (xR X) (xS X) (xm X) (xa X) (xb X) (xM X) (xc X) H locs nc ns (xQ X) (F0 (xm X) pc ls stk)
def Oi (X : Cx) (D : va_G) (cy : Nat → ClassId) (cc : ByteArray) (own : String) (nL : Nat) (R : Room) : Prop :=
  (xp X).tables.exec = Jvm.exec ∧ (xc X).code = cc ∧ (xc X).maxLocals = nL ∧ (xS X).vm.findClass own = some (xm X).cls ∧ (∀ w ∈ gtb, w.before (xa X) (xS X) = true) ∧
  va_K D vwCl (tyK cy) (xS X) ∧ (∀ q, (xS X).heap.size ≤ q → xA X q) ∧ nI5 (xS X) ∧ xR X = R
section KI
variable {X : Cx} {D : va_G} {cy : Nat → ClassId} {cc : ByteArray} {own : String} {nL : Nat} {R : Room} {ws ws' : va_W} {nc ns nc' ns' : Nat} {pc pc' : Nat} {lv lv' : List (Nat × Value)} {stk rest : List Value}
theorem i_ws (e : ws = ws') (kk : Wi X D nL ws' nc ns pc lv stk) : Wi X D nL ws nc ns pc lv stk := e ▸ kk
theorem i_sub (ks : List Nat) (hl : lv_pick lv ks = lv') (kk : Wi X D nL ws nc ns pc lv' stk) : Wi X D nL ws nc ns pc lv stk := fun H locs ls hP hD hS h => kk H locs ls hP hD hS (lv_sub h ks hl)
theorem i_iconst (h : Oi X D cy cc own nL R) {n : Int} {v : Int32} (hd : decode cc pc = .ok (.iconst n, 1)) (hn : pc + 1 = pc') (hv : Int32.ofInt n = v) (kk : Wi X D nL ws nc ns pc' lv (.int v :: stk)) : Wi X D nL ws nc ns pc lv stk := by
  subst hn
  intro H locs ls hP hD hS hl
  exact lv_iconst h.1 h.2.1 hd hv (kk H locs ls hP hD hS hl)
theorem i_bipush (h : Oi X D cy cc own nL R) {n : Int} {v : Int32} (hd : decode cc pc = .ok (.bipush n, 2)) (hn : pc + 2 = pc') (hv : (Int8.ofInt n).toInt32 = v) (kk : Wi X D nL ws nc ns pc' lv (.int v :: stk)) : Wi X D nL ws nc ns pc lv stk := by
  subst hn
  intro H locs ls hP hD hS hl
  exact lv_bipush h.1 h.2.1 hd hv (kk H locs ls hP hD hS hl)
theorem i_sipush (h : Oi X D cy cc own nL R) {n : Int} {v : Int32} (hd : decode cc pc = .ok (.sipush n, 3)) (hn : pc + 3 = pc') (hv : (Int16.ofInt n).toInt32 = v) (kk : Wi X D nL ws nc ns pc' lv (.int v :: stk)) : Wi X D nL ws nc ns pc lv stk := by
  subst hn
  intro H locs ls hP hD hS hl
  exact lv_sipush h.1 h.2.1 hd hv (kk H locs ls hP hD hS hl)
theorem i_lconst (h : Oi X D cy cc own nL R) {n : Fin 2} {v : Int64} (hd : decode cc pc = .ok (.lconst n, 1)) (hn : pc + 1 = pc') (hv : Int64.ofNat (n : Nat) = v) (kk : Wi X D nL ws nc ns pc' lv (.long v :: stk)) : Wi X D nL ws nc ns pc lv stk := by
  subst hn
  intro H locs ls hP hD hS hl
  exact lv_lconst h.1 h.2.1 hd hv (kk H locs ls hP hD hS hl)
theorem i_iload_n (h : Oi X D cy cc own nL R) {k : Fin 4} {i : Nat} {x : Int32} (hd : decode cc pc = .ok (.iload_n k, 1)) (hn : pc + 1 = pc') (hi : (k : Nat) = i) (j : Nat) (hj : lv[j]? = some (i, .int x)) (kk : Wi X D nL ws nc ns pc' lv (.int x :: stk)) : Wi X D nL ws nc ns pc lv stk := by
  subst hn
  intro H locs ls hP hD hS hl
  exact lv_iload_n h.1 h.2.1 hd hi (lv_at hl j hj) (kk H locs ls hP hD hS hl)
theorem i_aload_n (h : Oi X D cy cc own nL R) {k : Fin 4} {i : Nat} {x : Nat} (hd : decode cc pc = .ok (.aload_n k, 1)) (hn : pc + 1 = pc') (hi : (k : Nat) = i) (j : Nat) (hj : lv[j]? = some (i, .ref x)) (kk : Wi X D nL ws nc ns pc' lv (.ref x :: stk)) : Wi X D nL ws nc ns pc lv stk := by
  subst hn
  intro H locs ls hP hD hS hl
  exact lv_aload_n h.1 h.2.1 hd hi (lv_at hl j hj) (kk H locs ls hP hD hS hl)
theorem i_dup (h : Oi X D cy cc own nL R) {va : Value} (hd : decode cc pc = .ok (.dup, 1)) (hn : pc + 1 = pc') (hc : va.category = 1) (kk : Wi X D nL ws nc ns pc' lv (va :: va :: stk)) : Wi X D nL ws nc ns pc lv (va :: stk) := by
  subst hn
  intro H locs ls hP hD hS hl
  exact lv_dup h.1 h.2.1 hd hc (kk H locs ls hP hD hS hl)
theorem i_iadd (h : Oi X D cy cc own nL R) {x y : Int32} (hd : decode cc pc = .ok (.iadd, 1)) (hn : pc + 1 = pc')  (kk : Wi X D nL ws nc ns pc' lv (.int (x + y) :: stk)) : Wi X D nL ws nc ns pc lv (.int y :: .int x :: stk) := by
  subst hn
  intro H locs ls hP hD hS hl
  exact lv_iadd h.1 h.2.1 hd (kk H locs ls hP hD hS hl)
theorem i_isub (h : Oi X D cy cc own nL R) {x y : Int32} (hd : decode cc pc = .ok (.isub, 1)) (hn : pc + 1 = pc')  (kk : Wi X D nL ws nc ns pc' lv (.int (x - y) :: stk)) : Wi X D nL ws nc ns pc lv (.int y :: .int x :: stk) := by
  subst hn
  intro H locs ls hP hD hS hl
  exact lv_isub h.1 h.2.1 hd (kk H locs ls hP hD hS hl)
theorem i_iand (h : Oi X D cy cc own nL R) {x y : Int32} (hd : decode cc pc = .ok (.iand, 1)) (hn : pc + 1 = pc')  (kk : Wi X D nL ws nc ns pc' lv (.int (x &&& y) :: stk)) : Wi X D nL ws nc ns pc lv (.int y :: .int x :: stk) := by
  subst hn
  intro H locs ls hP hD hS hl
  exact lv_iand h.1 h.2.1 hd (kk H locs ls hP hD hS hl)
theorem i_lcmp (h : Oi X D cy cc own nL R) {x y : Int64} (hd : decode cc pc = .ok (.lcmp, 1)) (hn : pc + 1 = pc')  (kk : Wi X D nL ws nc ns pc' lv (.int (lg_cmp x y) :: stk)) : Wi X D nL ws nc ns pc lv (.long y :: .long x :: stk) := by
  subst hn
  intro H locs ls hP hD hS hl
  exact W.lcmp h.1 h.2.1 hd (kk H locs ls hP hD hS hl)
theorem i_istore_n (h : Oi X D cy cc own nL R) {k : Fin 4} {i : Nat} {x : Int32} (hd : decode cc pc = .ok (.istore_n k, 1)) (hn : pc + 1 = pc') (hi : (k : Nat) = i) (hL : i < nL) (ks : List Nat) (hs : lv_pick ((i, Value.int x) :: lv.filter (fun q => !(q.1 == i) && !(q.1 + 1 == i && q.2.category == 2))) ks = lv') (kk : Wi X D nL ws nc ns pc' lv' stk) : Wi X D nL ws nc ns pc lv (.int x :: stk) := by
  subst hn
  intro H locs ls hP hD hS hl
  exact lv_istore_n h.1 h.2.1 hd hi hl hL rfl (fun ls2 hl2 => kk H locs ls2 hP hD hS (lv_sub hl2 ks hs))
theorem i_astore_n (h : Oi X D cy cc own nL R) {k : Fin 4} {i : Nat} {x : Nat} (hd : decode cc pc = .ok (.astore_n k, 1)) (hn : pc + 1 = pc') (hi : (k : Nat) = i) (hL : i < nL) (ks : List Nat) (hs : lv_pick ((i, Value.ref x) :: lv.filter (fun q => !(q.1 == i) && !(q.1 + 1 == i && q.2.category == 2))) ks = lv') (kk : Wi X D nL ws nc ns pc' lv' stk) : Wi X D nL ws nc ns pc lv (.ref x :: stk) := by
  subst hn
  intro H locs ls hP hD hS hl
  exact lv_astore_n h.1 h.2.1 hd hi hl hL rfl (fun ls2 hl2 => kk H locs ls2 hP hD hS (lv_sub hl2 ks hs))
theorem i_iinc (h : Oi X D cy cc own nL R) {i : Nat} {n : Int} {x v : Int32} (hd : decode cc pc = .ok (.iinc i n, 3)) (hn : pc + 3 = pc') (j : Nat) (hj : lv[j]? = some (i, .int x)) (hv : x + Int32.ofInt n = v) (hL : i < nL) (ks : List Nat) (hs : lv_pick ((i, Value.int v) :: lv.filter (fun q => !(q.1 == i) && !(q.1 + 1 == i && q.2.category == 2))) ks = lv') (kk : Wi X D nL ws nc ns pc' lv' stk) : Wi X D nL ws nc ns pc lv stk := by
  subst hn
  intro H locs ls hP hD hS hl
  exact lv_iinc h.1 h.2.1 hd hl hj hv hL rfl (fun ls2 hl2 => kk H locs ls2 hP hD hS (lv_sub hl2 ks hs))
theorem i_goto (h : Oi X D cy cc own nL R) {off : Int} {tgt : Nat} (hd : decode cc pc = .ok (.goto off, 3)) (ht : (pc : Int) + off = (tgt : Int)) (kk : Wi X D nL ws nc ns tgt lv stk) : Wi X D nL ws nc ns pc lv stk := fun H locs ls hP hD hS hl => lv_goto h.1 h.2.1 hd ht (kk H locs ls hP hD hS hl)
theorem i_if_eq (h : Oi X D cy cc own nL R) {x : Int32} {off : Int} {tgt : Nat} (hd : decode cc pc = .ok (.ifCond .eq off, 3)) (hn : pc + 3 = pc') (ht : (pc : Int) + off = (tgt : Int)) (kt : x = 0 → Wi X D nL ws nc ns tgt lv stk) (kf : ¬ x = 0 → Wi X D nL ws nc ns pc' lv stk) : Wi X D nL ws nc ns pc lv (.int x :: stk) := by
  subst hn
  intro H locs ls hP hD hS hl
  exact lv_if_eq h.1 h.2.1 hd ht (fun q => kt q H locs ls hP hD hS hl) (fun q => kf q H locs ls hP hD hS hl)
theorem i_icmp_eq (h : Oi X D cy cc own nL R) {x y : Int32} {off : Int} {tgt : Nat} (hd : decode cc pc = .ok (.if_icmp .eq off, 3)) (hn : pc + 3 = pc') (ht : (pc : Int) + off = (tgt : Int)) (kt : x = y → Wi X D nL ws nc ns tgt lv stk) (kf : ¬ x = y → Wi X D nL ws nc ns pc' lv stk) : Wi X D nL ws nc ns pc lv (.int y :: .int x :: stk) := by
  subst hn
  intro H locs ls hP hD hS hl
  exact lv_icmp_eq h.1 h.2.1 hd ht (fun q => kt q H locs ls hP hD hS hl) (fun q => kf q H locs ls hP hD hS hl)
theorem i_icmp_ge (h : Oi X D cy cc own nL R) {x y : Int32} {off : Int} {tgt : Nat} (hd : decode cc pc = .ok (.if_icmp .ge off, 3)) (hn : pc + 3 = pc') (ht : (pc : Int) + off = (tgt : Int)) (kt : y ≤ x → Wi X D nL ws nc ns tgt lv stk) (kf : ¬ y ≤ x → Wi X D nL ws nc ns pc' lv stk) : Wi X D nL ws nc ns pc lv (.int y :: .int x :: stk) := by
  subst hn
  intro H locs ls hP hD hS hl
  exact lv_icmp_ge h.1 h.2.1 hd ht (fun q => kt q H locs ls hP hD hS hl) (fun q => kf q H locs ls hP hD hS hl)
theorem i_icmp_gt (h : Oi X D cy cc own nL R) {x y : Int32} {off : Int} {tgt : Nat} (hd : decode cc pc = .ok (.if_icmp .gt off, 3)) (hn : pc + 3 = pc') (ht : (pc : Int) + off = (tgt : Int)) (kt : y < x → Wi X D nL ws nc ns tgt lv stk) (kf : ¬ y < x → Wi X D nL ws nc ns pc' lv stk) : Wi X D nL ws nc ns pc lv (.int y :: .int x :: stk) := by
  subst hn
  intro H locs ls hP hD hS hl
  exact lv_icmp_gt h.1 h.2.1 hd ht (fun q => kt q H locs ls hP hD hS hl) (fun q => kf q H locs ls hP hD hS hl)
theorem i_tout (h : Oi X D cy cc own nL R) {dflt lo hi : Int} {offs : Array Int} {len : Nat} {x : Int32} {tgt : Nat} (hd : decode cc pc = .ok (.tableswitch dflt lo hi offs, len)) (hx : x.toInt < lo ∨ hi < x.toInt) (ht : (pc : Int) + dflt = (tgt : Int)) (kk : Wi X D nL ws nc ns tgt lv stk) : Wi X D nL ws nc ns pc lv (.int x :: stk) := fun H locs ls hP hD hS hl => lv_tableOut h.1 h.2.1 hd hx ht (kk H locs ls hP hD hS hl)
theorem i_tin (h : Oi X D cy cc own nL R) {dflt lo hi : Int} {offs : Array Int} {len : Nat} {x : Int32} (z : Int) {off : Int} {tgt : Nat} (hd : decode cc pc = .ok (.tableswitch dflt lo hi offs, len)) (hx : x.toInt = z) (h1 : lo ≤ z) (h2 : z ≤ hi) (ho : offs[(z - lo).toNat]? = some off) (ht : (pc : Int) + off = (tgt : Int)) (kk : Wi X D nL ws nc ns tgt lv stk) : Wi X D nL ws nc ns pc lv (.int x :: stk) := fun H locs ls hP hD hS hl => lv_tableIn h.1 h.2.1 hd (by rw [hx]; omega) (by rw [hx]; omega) (by rw [hx]; exact ho) ht (kk H locs ls hP hD hS hl)
theorem i_get (h : Oi X D cy cc own nL R) {q0 a ci j idx : Nat} {fs : List Value} {v : Value} (hd : decode cc pc = .ok (.getfield idx, 3)) (hn : pc + 3 = pc') (ho : ws[q0]? = some (a, .inr (ci, fs))) (hf : FL own idx ci j) (hv : fs[j]? = some v) (kk : Wi X D nL ws nc ns pc' lv (v :: stk)) : Wi X D nL ws nc ns pc lv (.ref a :: stk) := by
  subst hn
  intro H locs ls hP hD hS hl
  obtain ⟨C, T, N, h1, h2, h3, h4⟩ := hf
  exact va_get h.1 h.2.1 h.2.2.2.2.1 h2 h.2.2.2.1 h.2.2.2.2.2.1 hP q0 ho h1 j h3 (h.2.2.2.2.1 _ h4) (fun _ q => q) hv hd (kk H locs ls hP hD hS hl)
theorem i_put (h : Oi X D cy cc own nL R) {q0 a ci j idx : Nat} {fs : List Value} {v : Value} {ty : FieldType} (hd : decode cc pc = .ok (.putfield idx, 3)) (hn : pc + 3 = pc') (ho : ws[q0]? = some (a, .inr (ci, fs))) (hf : FP own idx ci j ty) (hnv : narrow ty v = v) (hfit : fits ty v = true) (hj : j < fs.length) (hw : ws.set q0 (a, .inr (ci, fs.set j v)) = ws') (kk : Wi X D nL ws' nc ns pc' lv stk) : Wi X D nL ws nc ns pc lv (v :: .ref a :: stk) := by
  subst hn
  subst hw
  intro H locs ls hP hD hS hl
  obtain ⟨C, T, N, ty0, h1, h2, h3, h4, h5, h6, h7, h8⟩ := hf
  exact va_put (v := v) h.1 h.2.1 h.2.2.2.2.1 h2 ty0 h5 h6 h.2.2.2.1 h.2.2.2.2.2.1 hP hD hS q0 ho h1 j h3 (h.2.2.2.2.1 _ h4) (fun _ q => q) h7 h8 hnv hfit hj hd (fun H1 locs1 hP1 hD1 hS1 => kk H1 locs1 ls hP1 hD1 hS1 hl)
/-- a final field by its entry -/
def FF (own : String) (idx ci j : Nat) (ty : FieldType) : Prop := ∃ (C : String) (T : u_T) (N : Nat) (ty0 : Nat → FieldType), vwCl[ci]? = some (C, T, N) ∧ (∀ w ∈ u_ws C T N, w ∈ gtb) ∧ j < N ∧ Cond.fieldLink own idx (T j).1 (T j).2.1 (T j).2.2.1 ∈ gtb ∧ (∀ k, k < N → parseFieldDescriptor (T k).2.2.1 = some (ty0 k)) ∧ (∀ a, a < N → ∀ b, b < N → a ≠ b → (T a).2.1 ≠ (T b).2.1) ∧ (T j).2.2.2 = true ∧ parseFieldDescriptor (T j).2.2.1 = some ty ∧ (T j).1 = own
theorem i_putF (h : Oi X D cy cc own nL R) (hin : (xM X).name = "<init>") {q0 a ci j idx : Nat} {fs : List Value} {v : Value} {ty : FieldType} (hd : decode cc pc = .ok (.putfield idx, 3)) (hn : pc + 3 = pc') (ho : ws[q0]? = some (a, .inr (ci, fs))) (hf : FF own idx ci j ty) (hnv : narrow ty v = v) (hfit : fits ty v = true) (hj : j < fs.length) (hw : ws.set q0 (a, .inr (ci, fs.set j v)) = ws') (kk : Wi X D nL ws' nc ns pc' lv stk) : Wi X D nL ws nc ns pc lv (v :: .ref a :: stk) := by
  subst hn
  subst hw
  intro H locs ls hP hD hS hl
  obtain ⟨C, T, N, ty0, h1, h2, h3, h4, h5, h6, h7, h8, h9⟩ := hf
  exact va_putF (v := v) h.1 h.2.1 h.2.2.2.2.1 h2 ty0 h5 h6 h.2.2.2.1 h.2.2.2.2.2.1 hP hD hS q0 ho h1 j h3 (h.2.2.2.2.1 _ h4) (fun _ q => q) h7 hin h9 h8 hnv hfit hj hd (fun H1 locs1 hP1 hD1 hS1 => kk H1 locs1 ls hP1 hD1 hS1 hl)
theorem i_iast (h : Oi X D cy cc own nL R) {q0 a n : Nat} {i x : Int32} {f : Nat → Int32} (hd : decode cc pc = .ok (.iastore, 1)) (hn : pc + 1 = pc') (ho : ws[q0]? = some (a, .inl (cy 0, n, .inl f))) (hi : vp_in i n) (hw : ws.set q0 (a, .inl (cy 0, n, .inl (upd f i.toNatClampNeg x))) = ws') (kk : Wi X D nL ws' nc ns pc' lv stk) : Wi X D nL ws nc ns pc lv (.int x :: .int i :: .ref a :: stk) := by
  subst hn
  subst hw
  intro H locs ls hP hD hS hl
  exact va_iast h.1 h.2.1 h.2.2.2.2.2.1 hP hD hS q0 0 ho rfl hi hd (fun H1 locs1 hP1 hD1 hS1 => kk H1 locs1 ls hP1 hD1 hS1 hl)
theorem i_iastg (h : Oi X D cy cc own nL R) {q0 a n : Nat} {i x : Int32} {f : Nat → Int32} (hd : decode cc pc = .ok (.iastore, 1)) (hn : pc + 1 = pc') (ho : ws[q0]? = some (a, .inl (cy 0, n, .inl f))) (hi : vp_in i n) (kk : ∀ g, g = upd f i.toNatClampNeg x → Wi X D nL (ws.set q0 (a, .inl (cy 0, n, .inl g))) nc ns pc' lv stk) : Wi X D nL ws nc ns pc lv (.int x :: .int i :: .ref a :: stk) := i_iast h hd hn ho hi rfl (kk _ rfl)
theorem i_newa (h : Oi X D cy cc own nL R) {atype : ArrayType} {n : Int32} {N k : Nat} {ty : FieldType} (hd : decode cc pc = .ok (.newarray atype, 2)) (hn : pc + 2 = pc') (hty : newarray.typeOf atype = ty) (hac : Cond.arrayClass (newarray.typeOf atype) ∈ gtb) (hk : (tyK cy)[k]? = some (cy k, ty)) (hdv : defaultValue ty = .int 0) (hra : ∀ c, va_RA (xS X) c ty → (xS X).vm.findClass ("[" ++ ty.toString) = some c) (hn0 : ¬ n < 0) (hN : n.toNatClampNeg = N) (hby : N * componentBytes ty ≤ 536870912) (hc : nc + 1 = nc') (hs : ns + N = ns') (hR : nc' ≤ R.cells ∧ ns' ≤ R.slots)
    (kk : ∀ q : Nat, Wi X D nL (ws ++ [(q, .inl (cy k, N, .inl (fun _ => 0)))]) nc' ns' pc' lv (.ref q :: stk)) : Wi X D nL ws nc ns pc lv (.int n :: stk) := by
  subst hn
  subst hc
  subst hs
  intro H locs ls hP hD hS hl
  have hr := h.2.2.2.2.2.2.2.2
  refine va_newa (a0 := (N, .inl (fun _ => 0))) h.1 h.2.1 (h.2.2.2.2.1 _ hac) hty h.2.2.2.2.2.1 hP hD hS h.2.2.2.2.2.2.1 (fun cA => by rw [hdv]; rfl) hn0 hN hby (by rw [hr]; exact hR.1) (by rw [hr]; exact hR.2) hd (fun q cA H1 hK1 hP1 hD1 hS1 => ?_)
  have e1 := hra _ (hK1.2 7 (cA, ty) rfl).2
  have e2 := hra _ (h.2.2.2.2.2.1.2 k _ hk).2
  have e : cA = cy k := Option.some.inj (e1.symm.trans e2)
  subst e
  exact kk q H1 locs ls hP1 hD1 hS1 hl
theorem i_newq (h : Oi X D cy cc own nL R) {idx : Nat} {n : Int32} {N k : Nat} {C : String} (hd : decode cc pc = .ok (.anewarray idx, 3)) (hn : pc + 3 = pc') (hcl : Cond.classLink own idx C ∈ gtb) (hao : va_AO C (xS X)) (hk : (tyK cy)[k]? = some (cy k, .object C)) (hn0 : ¬ n < 0) (hN : n.toNatClampNeg = N) (hby : N * 4 ≤ 536870912) (hc : nc + 1 = nc') (hs : ns + N = ns') (hR : nc' ≤ R.cells ∧ ns' ≤ R.slots)
    (kk : ∀ q : Nat, Wi X D nL (ws ++ [(q, .inl (cy k, N, .inr (.inr (.inr (.inr (fun _ => none))))))]) nc' ns' pc' lv (.ref q :: stk)) : Wi X D nL ws nc ns pc lv (.int n :: stk) := by
  subst hn
  subst hc
  subst hs
  intro H locs ls hP hD hS hl
  have hr := h.2.2.2.2.2.2.2.2
  refine va_newq h.1 h.2.1 h.2.2.2.1 (h.2.2.2.2.1 _ hcl) hao h.2.2.2.2.2.1 hP hD hS h.2.2.2.2.2.2.1 hn0 hN hby (by rw [hr]; exact hR.1) (by rw [hr]; exact hR.2) hd (fun q cA H1 hK1 hP1 hD1 hS1 => ?_)
  obtain ⟨_, _, _, _, _, e1⟩ := (hK1.2 7 (cA, .object C) rfl).2
  obtain ⟨_, _, _, _, _, e2⟩ := (h.2.2.2.2.2.1.2 k _ hk).2
  have e : cA = cy k := Option.some.inj (e1.symm.trans e2)
  subst e
  exact kk q H1 locs ls hP1 hD1 hS1 hl
theorem i_mna (h : Oi X D cy cc own nL R) {idx : Nat} {n m : Int32} {N K k k2 : Nat} {ty : FieldType} (hd : decode cc pc = .ok (.multianewarray idx 2, 4)) (hn : pc + 4 = pc') (hcl : Cond.classLink own idx ("[" ++ (FieldType.array ty).toString) ∈ gtb) (hao : va_AOA ty (xS X)) (hac : Cond.arrayClass ty ∈ gtb) (hk : (tyK cy)[k]? = some (cy k, ty)) (hk2 : (tyK cy)[k2]? = some (cy k2, .array ty)) (hra : ∀ c, va_RA (xS X) c ty → (xS X).vm.findClass (FieldType.array ty).toString = some c) (hdv : defaultValue ty = .int 0) (hdf : fits ty (defaultValue ty) = true) (hdd : (defaultValue ty).isDefault = true)
    (hn0 : ¬ n < 0) (hm0 : ¬ m < 0) (hN : n.toNatClampNeg = N) (hM : m.toNatClampNeg = K) (hb1 : N * 4 ≤ 536870912) (hb2 : K * componentBytes ty ≤ 536870912) (hb3 : K ≤ 536870912) (hc : nc + 1 + N = nc') (hs : ns + N + N * K = ns') (hR : nc' ≤ R.cells ∧ ns' ≤ R.slots)
    (kk : ∀ (q : Nat) (r : Nat → Nat), Wi X D nL (ws ++ ((q, .inl (cy k2, N, .inr (.inr (.inr (.inr (fun i => if i < N then some (r i) else none)))))) :: (List.range N).map (fun i => (r i, .inl (cy k, K, .inl (fun _ => 0)))))) nc' ns' pc' lv (.ref q :: stk)) : Wi X D nL ws nc ns pc lv (.int m :: .int n :: stk) := by
  subst hn
  subst hc
  subst hs
  intro H locs ls hP hD hS hl
  have hr := h.2.2.2.2.2.2.2.2
  have e0 : ws ++ va_pl [] (fun _ => (.inr (0, []) : va_E)) = ws := List.append_nil _
  refine va_mna (X := ws) (L := []) (f := fun _ => .inr (0, [])) (z := (K, .inl (fun _ => 0))) h.1 h.2.1 h.2.2.2.1 (h.2.2.2.2.1 _ hcl) hao (h.2.2.2.2.1 _ hac) (hra _ (h.2.2.2.2.2.1.2 k _ hk).2) h.2.2.2.2.2.1 (by rw [e0]; exact hP) (by rw [e0]; exact hD) hS h.2.2.2.2.2.2.1 hn0 hm0 hN hM hb1 hb2 hb3 hdf hdd (by rw [hr]; have := hR.1; omega) (by rw [hr]; have := hR.2; omega) (fun c => by rw [hdv]; exact arrV_new c K (.int 0)) hd (fun q r cA H1 hj hnl hK1 hP1 hD1 hS1 => ?_)
  have e1 : (xS X).vm.findClass ("[" ++ (FieldType.array ty).toString) = some cA := (hK1.2 7 (cA, .array ty) rfl).2
  have e2 : (xS X).vm.findClass ("[" ++ (FieldType.array ty).toString) = some (cy k2) := (h.2.2.2.2.2.1.2 k2 _ hk2).2
  have e : cA = cy k2 := Option.some.inj (e1.symm.trans e2)
  subst e
  have e3 : ∀ z : va_E, va_pl ([] ++ (List.range N).map r) (vr_up (fun _ => (.inr (0, []) : va_E)) ((List.range N).map r) z) = (List.range N).map (fun i => (r i, z)) := fun z => by
    unfold va_pl
    rw [List.nil_append, List.map_map]
    apply List.map_congr_left
    intro i hi
    show (r i, vr_up _ _ _ (r i)) = (r i, z)
    rw [vr_up_in (List.mem_map.mpr ⟨i, hi, rfl⟩)]
  rw [e3, List.append_assoc] at hP1 hD1
  exact kk q r H1 locs ls hP1 hD1 hS1 hl
theorem i_new (h : Oi X D cy cc own nL R) {idx ci N : Nat} {C : String} {T : u_T} {ty : Nat → FieldType} {fs : List Value} (hd : decode cc pc = .ok (.new idx, 3)) (hn : pc + 3 = pc') (hu : ∀ w ∈ u_ws C T N, w ∈ gtb) (hty : ∀ k, k < N → parseFieldDescriptor (T k).2.2.1 = some (ty k)) (hw : Cond.classLink own idx C ∈ gtb ∧ Cond.instantiable C N ∈ gtb ∧ Cond.initialized C ∈ gtb) (hcl : vwCl[ci]? = some (C, T, N)) (hfs : ∀ j, j < N → defaultValue (ty j) = vp_V fs j) (hc : nc + 1 = nc') (hs : ns + N = ns') (hR : nc' ≤ R.cells ∧ ns' ≤ R.slots)
    (kk : ∀ q : Nat, Wi X D nL (ws ++ [(q, .inr (ci, fs))]) nc' ns' pc' lv (.ref q :: stk)) : Wi X D nL ws nc ns pc lv stk := by
  subst hn
  subst hc
  subst hs
  intro H locs ls hP hD hS hl
  have hr := h.2.2.2.2.2.2.2.2
  exact va_new h.1 h.2.1 h.2.2.2.2.1 hu ty hty h.2.2.2.1 (h.2.2.2.2.1 _ hw.1) (h.2.2.2.2.1 _ hw.2.1) (h.2.2.2.2.1 _ hw.2.2) h.2.2.2.2.2.1 hP hD hS h.2.2.2.2.2.2.1 hcl hfs (by rw [hr]; exact hR.1) (by rw [hr]; exact hR.2) hd (fun q H1 hP1 hD1 hS1 => kk q H1 locs ls hP1 hD1 hS1 hl)
theorem i_astq (h : Oi X D cy cc own nL R) {q0 a n t0 qk ci v : Nat} {r : vw_C} {vs : List Value} {i : Int32} {f : Nat → Option Nat} (hd : decode cc pc = .ok (.aastore, 1)) (hn : pc + 1 = pc') (ht : (tyK cy)[t0]? = some (cy t0, .object r.1)) (ho : ws[q0]? = some (a, .inl (cy t0, n, .inr (.inr (.inr (.inr f)))))) (hv : ws[qk]? = some (v, .inr (ci, vs))) (hc : vwCl[ci]? = some r) (hi : vp_in i n) (hw : ws.set q0 (a, .inl (cy t0, n, .inr (.inr (.inr (.inr (va_up f i.toNatClampNeg (some v))))))) = ws') (kk : Wi X D nL ws' nc ns pc' lv stk) : Wi X D nL ws nc ns pc lv (.ref v :: .int i :: .ref a :: stk) := by
  subst hn
  subst hw
  intro H locs ls hP hD hS hl
  exact va_astq h.1 h.2.1 h.2.2.2.2.2.1 hP hD hS q0 t0 qk ci ho ht hv hc hi hd (fun H1 locs1 hP1 hD1 hS1 => kk H1 locs1 ls hP1 hD1 hS1 hl)
theorem i_astqg (h : Oi X D cy cc own nL R) {q0 a n t0 qk ci v : Nat} {r : vw_C} {vs : List Value} {i : Int32} {f : Nat → Option Nat} (hd : decode cc pc = .ok (.aastore, 1)) (hn : pc + 1 = pc') (ht : (tyK cy)[t0]? = some (cy t0, .object r.1)) (ho : ws[q0]? = some (a, .inl (cy t0, n, .inr (.inr (.inr (.inr f)))))) (hv : ws[qk]? = some (v, .inr (ci, vs))) (hc : vwCl[ci]? = some r) (hi : vp_in i n) (kk : ∀ g, g = va_up f i.toNatClampNeg (some v) → Wi X D nL (ws.set q0 (a, .inl (cy t0, n, .inr (.inr (.inr (.inr g)))))) nc ns pc' lv stk) : Wi X D nL ws nc ns pc lv (.ref v :: .int i :: .ref a :: stk) := i_astq h hd hn ht ho hv hc hi rfl (kk _ rfl)
theorem i_oinit (h : Oi X D cy cc own nL R) {idx a : Nat} (hd : decode cc pc = .ok (.invokespecial idx, 3)) (hn : pc + 3 = pc') (hw : Cond.methodLink own idx Lib.objectInit ∈ gtb ∧ Cond.instanceMethod Lib.objectInit ∈ gtb ∧ Cond.code Lib.objectInit ⟨#[0xb1]⟩ 1 none ∈ gtb) (hR : 1 ≤ R.frames ∧ (stk.map fun v => v.category).sum + 12 ≤ R.locals) (kk : Wi X D nL ws nc ns pc' lv stk) : Wi X D nL ws nc ns pc lv (.ref a :: stk) := by
  subst hn
  intro H locs ls hP hD hS hl
  have hr := h.2.2.2.2.2.2.2.2
  exact W.objInit h.1 h.2.1 h.2.2.2.1 (h.2.2.2.2.1 _ hw.1) (h.2.2.2.2.1 _ hw.2.1) (h.2.2.2.2.1 _ hw.2.2) rfl (hl.1.trans h.2.2.1.symm) rfl hd (by rw [hr]; exact hR.1) (by rw [hr]; show 2 * 0 + _ + 12 ≤ _; have := hR.2; omega) (kk H locs ls hP hD hS hl)
end KI
/-! A CONSTRUCTOR'S CONTRACT -/
def RI (hh mc ms : Nat) : Room := { frames := hh, cells := mc, slots := ms, locals := 30 * hh }
def Pj (D : va_G) (cy : Nat → ClassId) (h0 : Nat) (e0 : va_E) (sz : Nat) : Array Value → State → Prop := va_Pc [.ref h0] (fun U => U.heap.size = sz ∧ va_P D vwCl [(h0, e0)] U.heap ∧ va_K D vwCl (tyK cy) U ∧ nI5 U)
def Qj (D : va_G) (h0 : Nat) (e0 : va_E) (sz : Nat) (Post : va_W → Prop) : Array Value → State → Outcome → State → Prop := fun _ s0 oc t => (oc = .returned none ∧ ∃ w1, Post w1 ∧ va_P D vwCl w1 t.heap ∧ va_D (va_A [(h0, e0)] sz) w1) ∧ va_F (va_A [(h0, e0)] sz) s0 t
def IM (l : Launch) (y : MethodName) (bytes : ByteArray) (maxL hh mc ms : Nat) (D : va_G) (cy : Nat → ClassId) (h0 : Nat) (e0 : va_E) (Post : va_W → Prop) : Prop := ∀ sz, Met l y (Cond.code y bytes maxL none :: gtb) (RI hh mc ms) (Pj D cy h0 e0 sz) (Qj D h0 e0 sz Post) mc ms (va_A [(h0, e0)] sz)
def Ri (X : Cx) (D : va_G) (mc ms : Nat) (Post : va_W → Prop) : Prop :=
  (xM X).sig.returnType = none ∧ (xM X).locks = false ∧ ∃ (Qc : Array Value → State → Outcome → State → Prop) (free : Addr → Prop), xQ X = MQ (xb X) Qc (xa X) (xS X) mc ms free ∧ (∀ q, xA X q → free q) ∧
    ∀ (H : Heap) (locs : List Loc) (w : va_W), va_P D vwCl w H → va_D (xA X) w → va_S (xA X) (xS X).heap H locs → Post w → ∀ t : State, t.heap = H → (xS X).WarmedH t.vm → Qc (xa X) (xS X) (.returned none) t
theorem one_D {h0 : Nat} {e0 : va_E} {A : Nat → Prop} (hA : A h0) : va_D A [(h0, e0)] := by
  refine ⟨fun i j p q hi hj _ => ?_, fun k q hk => ?_⟩
  · have h1 : i < 1 := (List.getElem?_eq_some_iff.mp hi).1
    have h2 : j < 1 := (List.getElem?_eq_some_iff.mp hj).1
    omega
  · have h1 : k < 1 := (List.getElem?_eq_some_iff.mp hk).1
    have h2 : k = 0 := by omega
    subst h2
    cases hk
    exact hA
theorem mk_IM {l : Launch} {y : MethodName} {bytes : ByteArray} {maxL hh mc ms : Nat} {D : va_G} {cy : Nat → ClassId} {h0 : Nat} {e0 : va_E} {Post : va_W → Prop} (hy : plainName y.cls = true) (hlen : 1 ≤ maxL) (hnm : y.name = "<init>")
    (body : ∀ X : Cx, Oi X D cy bytes y.cls maxL (RI hh mc ms) → (xM X).name = "<init>" → Ri X D mc ms Post → Wi X D maxL [(h0, e0)] 0 0 0 [(0, .ref h0)] []) : IM l y bytes maxL hh mc ms D cy h0 e0 Post := by
  intro sz
  refine Met.ofW (cc := bytes) (maxL := maxL) (ret := none) hy rfl ?_
  intro p e s m args below meth c s₁ B hml hv
  obtain ⟨rfl, hsz, hP, hK, hnx⟩ := hv
  subst hsz
  rw [lg_entry_eq]
  have hl := lv_entry [.ref h0] (n := maxL) hlen
  exact body (p, l, e, RI hh mc ms, s, m, [Value.ref h0].toArray, below, meth, c, 0, 0, MQ below (Qj D h0 e0 s.heap.size Post) [Value.ref h0].toArray s mc ms (va_A [(h0, e0)] s.heap.size), va_A [(h0, e0)] s.heap.size)
    ⟨B.exec, B.bytes, hml, findClass_of_methodNamed B.named, fun w hw => atoms_spec B.pre w (List.mem_cons_of_mem _ hw), hK, fun q h => Or.inr h, hnx, rfl⟩
    ((name_of_methodNamed B.named B.method).1.trans hnm)
    ⟨B.returns, B.notSynchronized, Qj D h0 e0 s.heap.size Post, va_A [(h0, e0)] s.heap.size, rfl, fun q h => h, fun H locs w hP2 hD2 hS2 hp t ht hW => ⟨⟨rfl, w, hp, by rw [ht]; exact hP2, hD2⟩, hS2.F ht⟩⟩
    s.heap [] _ hP (one_D (Or.inl ⟨0, e0, rfl⟩)) va_S.rf hl
section KJ
variable {X : Cx} {D : va_G} {cy : Nat → ClassId} {cc : ByteArray} {own : String} {nL : Nat} {R : Room} {ws ws' : va_W} {nc ns nc' ns' : Nat} {pc pc' : Nat} {lv lv' : List (Nat × Value)} {stk rest : List Value}
theorem i_vret (h : Oi X D cy cc own nL R) {Post : va_W → Prop} (r : Ri X D nc ns Post) (hd : decode cc pc = .ok (.return_, 1)) (hp : Post ws) : Wi X D nL ws nc ns pc lv [] := by
  intro H locs ls hP hD hS hl
  obtain ⟨h1, h2, Qc, free, h3, h4, h5⟩ := r
  rw [h3]
  exact W.vret h.1 h.2.1 h1 (h5 H locs ws hP hD hS hp) (fun q hq => h4 _ (hS.2.2 q hq)) hd h2
/-- the cells in another order -/
theorem i_perm (is : List Nat) (h1 : is.filterMap (fun i => ws[i]?) = ws') (h3 : is.map (fun i => ws[i]?) = ws'.map some) (h2 : va_nd is = true) (kk : Wi X D nL ws' nc ns pc lv stk) : Wi X D nL ws nc ns pc lv stk := fun H locs ls hP hD hS hl => kk H locs ls (hP.sub is h1) (hD.sub is h2 h3) hS hl
/-- a new object's constructor runs -/
theorem j_run (h : Oi X D cy cc own nL R) {q0 b mc ms : Nat} {e0 : va_E} {Post : va_W → Prop} {wr : va_W} {isR : List Nat} (ho : ws[q0]? = some (b, e0)) (hR : isR.map (fun i => ws[i]?) = wr.map some) (hnd : va_nd isR = true) (hdis : ∀ i ∈ isR, i ∉ [q0]) {H : Heap} {locs : List Loc} {ls : Array Slot} (hP : va_P D vwCl ws H) (hD : va_D (xA X) ws) (hS : va_S (xA X) (xS X).heap H locs) (hl : lv_has ls nL lv) {a : Array Value}
    (hr : va_Run (xp X) (xl X) (xe X) (xR X) (xS X) (xm X) (xa X) (xb X) (xM X) (xc X) H locs nc ns mc ms (F0 (xm X) pc ls stk) rest (Qj D b e0 H.size Post a) (va_A [(b, e0)] H.size))
    (kk : ∀ w1, Post w1 → Wi X D nL (wr ++ w1) (nc + mc) (ns + ms) (pc + 3) lv rest) : W (xp X) (xl X) (xe X) (xR X) (xS X) (xm X) (xa X) (xb X) (xM X) (xc X) H locs nc ns (xQ X) (F0 (xm X) pc ls stk) := by
  intro T hT X0
  obtain ⟨v, st₀, t, T', L, h0, X', hL, e1, e2, ⟨⟨hv, w1, hp1, hP1, hD1⟩, hz, hk⟩, stp⟩ := hr T hT X0
  cases hv
  rw [h0] at hz hk
  have hC : [q0].map (fun i => ws[i]?) = [(b, e0)].map some := by
    show [ws[q0]?] = [some (b, e0)]
    rw [ho]
  have hF := va_free (wc := [(b, e0)]) hD hS h.2.2.2.2.2.2.1 [q0] hC
  obtain ⟨hP2, hD2⟩ := va_join (wr := wr) (w1 := w1) hP hD [q0] isR hC hR hnd hdis hk hF hP1 hD1
  have hS' : va_S (xA X) (xS X).heap T'.heap (locs ++ L) := ⟨Nat.le_trans hS.1 (by rw [e1]; exact hz), fun q h1 h2 => by rw [e1, hk q (Nat.lt_of_lt_of_le h1 hS.1) (fun z => h2 (hF q z))]; exact hS.2.1 q h1 h2, fun q hq => by
      rcases List.mem_append.mp hq with h9 | h9
      · exact hS.2.2 q h9
      · exact hF _ (hL q h9)⟩
  obtain ⟨t2, a1, b1⟩ := kk w1 hp1 T'.heap (locs ++ L) ls (by rw [e1]; exact hP2) hD2 hS' hl T' rfl X'
  exact ⟨t2, stp t2 a1, b1⟩
theorem j_blind {b sz : Nat} {e0 : va_E} : FrameBlind (Pj D cy b e0 sz) := fun a U g mk q => by
  obtain ⟨q0, q1, q2, q3, q6⟩ := q
  exact ⟨q0, q1, q2, va_K.moved (u := U) (U := U.calling g mk a) (Vm.Alike.refl U.vm) q3, nI5_same (u := U) (U := U.calling g mk a) rfl q6⟩
theorem j_pre (h : Oi X D cy cc own nL R) {q0 b : Nat} {e0 : va_E} {H : Heap} (ho : ws[q0]? = some (b, e0)) (hP : va_P D vwCl ws H) : ∀ U : State, U.heap = H → (xS X).WarmedH U.vm → Pj D cy b e0 H.size [Value.ref b].toArray U := by
  intro U hU hW
  have hQ : va_P D vwCl [(b, e0)] H := fun k q hk => by
    have h1 : k < 1 := (List.getElem?_eq_some_iff.mp hk).1
    have h2 : k = 0 := by omega
    subst h2
    cases hk
    exact hP q0 _ ho
  exact ⟨rfl, by rw [hU], by rw [hU]; exact hQ, va_K.moved hW.alike h.2.2.2.2.2.1, nI5_warm hW h.2.2.2.2.2.2.2.1⟩
/-- words of a constructor: started, its code, an instance method -/
def WJ (y : MethodName) (bytes : ByteArray) (maxL : Nat) : Prop := WC y bytes maxL none 0 ∧ y.name = "<init>" ∧ Cond.instanceMethod y ∈ gtb
theorem i_callN (h : Oi X D cy cc own nL R) {y : MethodName} {bytes : ByteArray} {maxL hh idx : Nat} {host : String} {q0 b mc ms : Nat} {e0 : va_E} {Post : va_W → Prop} {wr : va_W} {isR : List Nat} (hd : decode cc pc = .ok (.invokespecial idx, 3)) (hn : pc + 3 = pc') (hm : nI5 (xS X) → va_Nw (.methodLinkNest own idx y host) (xS X)) (hw : WJ y bytes maxL) (hRm : hh + 1 ≤ R.frames ∧ 8 + (maxL + 11) + 30 * hh ≤ R.locals) (hM : ∀ l, IM l y bytes maxL hh mc ms D cy b e0 Post) (ho : ws[q0]? = some (b, e0)) (hR : isR.map (fun i => ws[i]?) = wr.map some) (hnd : va_nd isR = true) (hdis : ∀ i ∈ isR, i ∉ [q0]) (hcat : (rest.map fun v => v.category).sum ≤ 8) (hc : nc + mc = nc') (hs : ns + ms = ns') (hRR : nc' ≤ R.cells ∧ ns' ≤ R.slots)
    (kk : ∀ w1, Post w1 → Wi X D nL (wr ++ w1) nc' ns' pc' lv rest) : Wi X D nL ws nc ns pc lv (.ref b :: rest) := by
  subst hn
  subst hc
  subst hs
  intro H locs ls hP hD hS hl
  have hr := h.2.2.2.2.2.2.2.2
  exact j_run h ho hR hnd hdis hP hD hS hl (va_runIN (As := []) (rest := rest) (b := b) (Ts := gtb) ⟨h.1, h.2.1, h.2.2.1, h.2.2.2.1, h.2.2.2.2.1⟩ (hM (xl X) H.size) ⟨va_cnB (Ts := gtb) 0 h.2.2.2.2.1 (tb_G hw.1.2.1) rfl rfl rfl (hm h.2.2.2.2.2.2.2.1) (h.2.2.2.2.1 _ hw.1.1) hw.1.2.2 (by rw [hr]; exact hRm), hw.2.1, h.2.2.2.2.1 _ hw.2.2⟩ ⟨j_blind, j_pre h ho hP⟩ rfl rfl hl.1 rfl (lv_room hcat) hd (by rw [hr]; exact hRR)) kk
theorem i_callI (h : Oi X D cy cc own nL R) {y : MethodName} {bytes : ByteArray} {maxL hh idx : Nat} {q0 b mc ms : Nat} {e0 : va_E} {Post : va_W → Prop} {wr : va_W} {isR : List Nat} (hd : decode cc pc = .ok (.invokespecial idx, 3)) (hn : pc + 3 = pc') (hm : Cond.methodLink own idx y ∈ gtb) (hw : WJ y bytes maxL) (hRm : hh + 1 ≤ R.frames ∧ 8 + (maxL + 11) + 30 * hh ≤ R.locals) (hM : ∀ l, IM l y bytes maxL hh mc ms D cy b e0 Post) (ho : ws[q0]? = some (b, e0)) (hR : isR.map (fun i => ws[i]?) = wr.map some) (hnd : va_nd isR = true) (hdis : ∀ i ∈ isR, i ∉ [q0]) (hcat : (rest.map fun v => v.category).sum ≤ 8) (hc : nc + mc = nc') (hs : ns + ms = ns') (hRR : nc' ≤ R.cells ∧ ns' ≤ R.slots)
    (kk : ∀ w1, Post w1 → Wi X D nL (wr ++ w1) nc' ns' pc' lv rest) : Wi X D nL ws nc ns pc lv (.ref b :: rest) := by
  subst hn
  subst hc
  subst hs
  intro H locs ls hP hD hS hl
  have hr := h.2.2.2.2.2.2.2.2
  exact j_run h ho hR hnd hdis hP hD hS hl (va_runI (As := []) (rest := rest) (b := b) (Ts := gtb) ⟨h.1, h.2.1, h.2.2.1, h.2.2.2.1, h.2.2.2.2.1⟩ (hM (xl X) H.size) ⟨callB_of (Ts := gtb) 0 h.2.2.2.2.1 (tb_G hw.1.2.1) rfl rfl rfl (h.2.2.2.2.1 _ hw.1.1) (h.2.2.2.2.1 _ hm) hw.1.2.2 (by rw [hr]; exact hRm), hw.2.1, h.2.2.2.2.1 _ hw.2.2⟩ ⟨j_blind, j_pre h ho hP⟩ rfl rfl hl.1 rfl (lv_room hcat) hd (by rw [hr]; exact hRR)) kk
end KJ
